/-! the reference's reads: places, months, readiness, begins -/
theorem nvI_m1 {x : Nat} (h : bdN x) : nvI x = -1 ↔ x = 100000 := by
  unfold nvI
  unfold bdN at h
  by_cases hx : x = 100000
  · simp [hx]
  · rw [if_neg hx]
    exact ⟨fun z => absurd z (nI_nm1 (by omega)), fun z => absurd z hx⟩
theorem nvI_lt {x : Nat} (h : x ≠ 100000) : nvI x = nI x := if_neg h
theorem maxF_ge {p : Nat → Bool} {f : Nat → Nat} {x : Nat} : ∀ {n i : Nat}, i < n → p i = true → f i ≤ maxF p f x n
  | 0, i, h, _ => by omega
  | n + 1, i, h, hp => by
    unfold maxF
    by_cases e : i = n
    · subst e
      rw [if_pos hp]
      exact Nat.le_max_right _ _
    · have := maxF_ge (p := p) (f := f) (x := x) (n := n) (i := i) (by omega) hp
      split
      · exact Nat.le_trans this (Nat.le_max_left _ _)
      · exact this
theorem maxF_none {p : Nat → Bool} {f : Nat → Nat} {x : Nat} : ∀ {n : Nat}, (∀ i, i < n → p i = false) → maxF p f x n = x
  | 0, _ => rfl
  | n + 1, h => by
    unfold maxF
    rw [maxF_none (fun i hi => h i (by omega)), h n (by omega)]
    rfl
theorem minF_none {p : Nat → Bool} {f : Nat → Nat} {x : Nat} : ∀ {n : Nat}, (∀ i, i < n → p i = false) → minF p f x n = x
  | 0, _ => rfl
  | n + 1, h => by
    unfold minF
    rw [minF_none (fun i hi => h i (by omega)), h n (by omega)]
    rfl
theorem cutN_hi {b : Nat} (h : 3600 ≤ b) : cutN b = 100000 := if_neg (by omega)
theorem cutN_lo {b : Nat} (h : b < 3600) : cutN b = b := if_pos h
theorem minF_bd {p : Nat → Bool} {f : Nat → Nat} (h : ∀ i, p i = true → bdN (f i)) : ∀ n, bdN (minF p f 100000 n)
  | 0 => Or.inr rfl
  | n + 1 => by
    have h1 := minF_bd h n
    unfold minF
    split
    · next hp =>
      have h2 := h n hp
      rcases Nat.le_total (minF p f 100000 n) (f n) with q | q
      · rw [Nat.min_eq_left q]; exact h1
      · rw [Nat.min_eq_right q]; exact h2
    · exact h1
theorem depB_cell {w : St} {PP : Nat → Nat → Int32} (h : MPl w PP) {k i : Nat} (hk : k < 12) (hi : i < 12) : depB PP k i = true ↔ bt (w.1 228 k) i = true ∧ ((2 ≤ w.1 224 i ∧ w.1 224 i ≤ 5) ∧ w.1 232 i = -1) := by
  unfold depB stB
  rw [Bool.and_eq_true, decide_eq_true_eq, (h k hk).2.1, (h i hi).1, (h i hi).2.2.2.2.2.1]
theorem anyF_step {p : Nat → Bool} {n : Nat} : anyF p (n + 1) = (anyF p n || p n) := rfl
theorem maxF_s {p : Nat → Bool} {f : Nat → Nat} {x n : Nat} : maxF p f x (n + 1) = if p n then max (maxF p f x n) (f n) else maxF p f x n := rfl
theorem minF_s {p : Nat → Bool} {f : Nat → Nat} {x n : Nat} : minF p f x (n + 1) = if p n then min (minF p f x n) (f n) else minF p f x n := rfl
abbrev T_X8_runs : Tr := fun lay av w Po => ∃ (k : Nat), av = [.ref (lay 221), .int (nI k)] ∧ (k < 12) ∧ Po (some (.int (bI (2 ≤ w.1 224 k ∧ w.1 224 k ≤ 5)))) w
set_option maxRecDepth 100000 in
set_option maxHeartbeats 4000000 in
theorem c_X8_runs : Ct yX8_runs cX8_runs 2 (some .boolean) 0 0 0 T_X8_runs := by
  refine Ct.mk (by decide +kernel) ?_
  intro X av w Po hX hR hT
  obtain ⟨k, rfl, hk, h⟩ := hT
  refine ⟨rfl, ?_⟩
  show A X 0 0 0 [some (.ref (xlay X 221)), some (.int (nI k))] [] w
  refine a_aload_n hX dX8_runs_0 rfl ?_
  refine gf_X8_20 rfl hX dX8_runs_1 ?_
  refine a_iload_n hX dX8_runs_4 rfl ?_
  refine a_iald (k) hX rfl rfl (show _ < 12 by omega) dX8_runs_5 ?_
  refine a_iconst (2) hX dX8_runs_6 (by decide) ?_
  refine a_icmp_lt 24 hX dX8_runs_7 (by decide) (fun c_7 => ?_) (fun c_7 => ?_)
  · refine a_iconst (0) hX dX8_runs_24 (by decide) ?_
    refine a_iret hX hR dX8_runs_25 ⟨Nat.le_refl _, Nat.le_refl _⟩ rfl ?_
    exact po_int h (by grind [bI])
  · refine a_aload_n hX dX8_runs_10 rfl ?_
    refine gf_X8_20 rfl hX dX8_runs_11 ?_
    refine a_iload_n hX dX8_runs_14 rfl ?_
    refine a_iald (k) hX rfl rfl (show _ < 12 by omega) dX8_runs_15 ?_
    refine a_iconst (5) hX dX8_runs_16 (by decide) ?_
    refine a_icmp_gt 24 hX dX8_runs_17 (by decide) (fun c_17 => ?_) (fun c_17 => ?_)
    · refine a_iconst (0) hX dX8_runs_24 (by decide) ?_
      refine a_iret hX hR dX8_runs_25 ⟨Nat.le_refl _, Nat.le_refl _⟩ rfl ?_
      exact po_int h (by grind [bI])
    · refine a_iconst (1) hX dX8_runs_20 (by decide) ?_
      refine a_goto 25 hX dX8_runs_21 (by decide) ?_
      refine a_iret hX hR dX8_runs_25 ⟨Nat.le_refl _, Nat.le_refl _⟩ rfl ?_
      exact po_int h (by grind [bI])
abbrev T_X8_isLive : Tr := fun lay av w Po => ∃ (k : Nat), av = [.ref (lay 221), .int (nI k)] ∧ (k < 12) ∧ Po (some (.int (bI ((2 ≤ w.1 224 k ∧ w.1 224 k ≤ 5) ∧ w.1 232 k = -1)))) w
set_option maxRecDepth 100000 in
set_option maxHeartbeats 4000000 in
theorem c_X8_isLive : Ct yX8_isLive cX8_isLive 2 (some .boolean) 1 0 0 T_X8_isLive := by
  refine Ct.mk (by decide +kernel) ?_
  intro X av w Po hX hR hT
  obtain ⟨k, rfl, hk, h⟩ := hT
  refine ⟨rfl, ?_⟩
  show A X 0 0 0 [some (.ref (xlay X 221)), some (.int (nI k))] [] w
  refine a_aload_n hX dX8_isLive_0 rfl ?_
  refine a_iload_n hX dX8_isLive_1 rfl ?_
  refine a_callV [_] hX c_X8_runs mi_X8_runs mv_X8_runs se_X8_runs (klt rfl (by decide)) (adr_lt (kd_lt rfl (by decide))) (cell_8 rfl) rfl li_X8_117 (by decide) rfl rfl (Nat.le_of_ble_eq_true rfl) (fun q => q) dX8_isLive_2 ⟨_, rfl, (by assumption), ?_⟩
  refine a_if_eq_b 22 hX dX8_isLive_5 (by decide) (fun c_5 => ?_) (fun c_5 => ?_)
  · refine a_iconst (0) hX dX8_isLive_22 (by decide) ?_
    refine a_iret hX hR dX8_isLive_23 ⟨Nat.le_refl _, Nat.le_refl _⟩ rfl ?_
    exact po_int h (by grind [bI])
  · refine a_aload_n hX dX8_isLive_8 rfl ?_
    refine gf_X8_44 rfl hX dX8_isLive_9 ?_
    refine a_iload_n hX dX8_isLive_12 rfl ?_
    refine a_iald (k) hX rfl rfl (show _ < 12 by omega) dX8_isLive_13 ?_
    refine a_iconst (-1) hX dX8_isLive_14 (by decide) ?_
    refine a_icmp_ne 22 hX dX8_isLive_15 (by decide) (fun c_15 => ?_) (fun c_15 => ?_)
    · refine a_iconst (0) hX dX8_isLive_22 (by decide) ?_
      refine a_iret hX hR dX8_isLive_23 ⟨Nat.le_refl _, Nat.le_refl _⟩ rfl ?_
      exact po_int h (by grind [bI])
    · refine a_iconst (1) hX dX8_isLive_18 (by decide) ?_
      refine a_goto 23 hX dX8_isLive_19 (by decide) ?_
      refine a_iret hX hR dX8_isLive_23 ⟨Nat.le_refl _, Nat.le_refl _⟩ rfl ?_
      exact po_int h (by grind [bI])
abbrev T_X8_thousandths : Tr := fun lay av w Po => ∃ (a t : Int32), av = [.int a, .int t] ∧ Po (some (.int ((a * t + 999) / 1000))) w
set_option maxRecDepth 100000 in
set_option maxHeartbeats 4000000 in
theorem c_X8_thousandths : Ct yX8_thousandths cX8_thousandths 2 (some .int) 0 0 0 T_X8_thousandths := by
  refine Ct.mk (by decide +kernel) ?_
  intro X av w Po hX hR hT
  obtain ⟨a, t, rfl, h⟩ := hT
  refine ⟨rfl, ?_⟩
  show A X 0 0 0 [some (.int a), some (.int t)] [] w
  refine a_iload_n hX dX8_thousandths_0 rfl ?_
  refine a_iload_n hX dX8_thousandths_1 rfl ?_
  refine a_imul hX dX8_thousandths_2 ?_
  refine a_sipush (999) hX dX8_thousandths_3 (by decide) ?_
  refine a_iadd hX dX8_thousandths_6 ?_
  refine a_sipush (1000) hX dX8_thousandths_7 (by decide) ?_
  refine a_idiv hX dX8_thousandths_10 (by decide) ?_
  refine a_iret hX hR dX8_thousandths_11 ⟨Nat.le_refl _, Nat.le_refl _⟩ rfl ?_
  exact h
abbrev T_X8_isHeld : Tr := fun lay av w Po => ∃ (S : RS) (P d : Nat) (mst : Int32), av = [.ref (lay 221), .int (nI P), .int (nI d), .int mst] ∧ (MP w S P) ∧ (gdS S) ∧ (P < 6) ∧ (d < 3600) ∧ Po (some (.int (bI (hdN S P mst d = true)))) w
set_option maxRecDepth 100000 in
set_option maxHeartbeats 4000000 in
theorem c_X8_isHeld : Ct yX8_isHeld cX8_isHeld 5 (some .boolean) 0 0 0 T_X8_isHeld := by
  refine Ct.mk (by decide +kernel) ?_
  intro X av w Po hX hR hT
  obtain ⟨S, P, d, mst, rfl, hM, hg, hP, hd, h⟩ := hT
  refine ⟨rfl, ?_⟩
  show A X 0 0 0 [some (.ref (xlay X 221)), some (.int (nI P)), some (.int (nI d)), some (.int mst), none] [] w
  obtain ⟨c1, c2⟩ := hM.2.1 P hP (d / 30) (by omega)
  obtain ⟨h0, n, hn, en⟩ := hg.2 P hP (d / 30) (by omega)
  have c3 : (S.2.1 P (d / 30) 0 = 1 ∨ S.2.1 P (d / 30) 0 = 2) → w.1 235 (120 * P + d / 30) = S.2.1 P (d / 30) 1 ∧ (w.1 236 (30 * (120 * P + d / 30) + d % 30) ≠ 0 ↔ S.2.2.1 P (d / 30) (d % 30) = true) := fun z => ⟨(c2 z).2.1, (c2 z).2.2 _ (by omega)⟩
  clear c2
  have hd30 : nI d / 30 = nI (d / 30) := pk_div (d := 30) (by omega) (by decide) (by decide)
  have hm30 : nI d - nI d / 30 * 30 = nI (d % 30) := pk_rem (d := 30) (by omega) (by decide) (by decide)
  refine a_bipush (120) hX dX8_isHeld_0 (by decide) ?_
  refine a_iload_n hX dX8_isHeld_2 rfl ?_
  refine a_imul hX dX8_isHeld_3 ?_
  refine a_iload_n hX dX8_isHeld_4 rfl ?_
  refine a_bipush (30) hX dX8_isHeld_5 (by decide) ?_
  refine a_idiv hX dX8_isHeld_7 (by decide) ?_
  rw [hd30]
  refine a_iadd hX dX8_isHeld_8 ?_
  rw [n120]
  refine a_istore (ls' := [_, _, _, _, _]) hX dX8_isHeld_9 (Nat.le_of_ble_eq_true rfl) rfl ?_
  refine a_aload_n hX dX8_isHeld_11 rfl ?_
  refine gf_X8_47 rfl hX dX8_isHeld_12 ?_
  refine a_iload hX dX8_isHeld_15 rfl ?_
  refine a_iald ((120 * P + d / 30)) hX rfl rfl (show _ < 720 by omega) dX8_isHeld_17 ?_
  refine a_if_ne 23 hX dX8_isHeld_18 (by decide) (fun c_18 => ?_) (fun c_18 => ?_)
  · refine a_aload_n hX dX8_isHeld_23 rfl ?_
    refine gf_X8_47 rfl hX dX8_isHeld_24 ?_
    refine a_iload hX dX8_isHeld_27 rfl ?_
    refine a_iald ((120 * P + d / 30)) hX rfl rfl (show _ < 720 by omega) dX8_isHeld_29 ?_
    refine a_iconst (2) hX dX8_isHeld_30 (by decide) ?_
    refine a_icmp_eq 46 hX dX8_isHeld_31 (by decide) (fun c_31 => ?_) (fun c_31 => ?_)
    · refine a_iload_n hX dX8_isHeld_46 rfl ?_
      refine a_if_ne 54 hX dX8_isHeld_47 (by decide) (fun c_47 => ?_) (fun c_47 => ?_)
      · refine a_iconst (0) hX dX8_isHeld_54 (by decide) ?_
        refine a_iret hX hR dX8_isHeld_55 ⟨Nat.le_refl _, Nat.le_refl _⟩ rfl ?_
        exact po_int h (by
          unfold hdN
          rcases h0 with e | e | e | e <;> rw [e] at c1 c3 ⊢ <;> simp at c1 c3 ⊢ <;> grind [bI])
      · refine a_iconst (1) hX dX8_isHeld_50 (by decide) ?_
        refine a_goto 55 hX dX8_isHeld_51 (by decide) ?_
        refine a_iret hX hR dX8_isHeld_55 ⟨Nat.le_refl _, Nat.le_refl _⟩ rfl ?_
        exact po_int h (by
          unfold hdN
          rcases h0 with e | e | e | e <;> rw [e] at c1 c3 ⊢ <;> simp at c1 c3 ⊢ <;> grind [bI])
    · refine a_aload_n hX dX8_isHeld_34 rfl ?_
      refine gf_X8_54 rfl hX dX8_isHeld_35 ?_
      refine a_iload hX dX8_isHeld_38 rfl ?_
      refine a_iald ((120 * P + d / 30)) hX rfl rfl (show _ < 720 by omega) dX8_isHeld_40 ?_
      refine a_bipush (30) hX dX8_isHeld_41 (by decide) ?_
      refine a_icmp_ge 56 hX dX8_isHeld_43 (by decide) (fun c_43 => ?_) (fun c_43 => ?_)
      · refine a_aload_n hX dX8_isHeld_56 rfl ?_
        refine gf_X8_57 rfl hX dX8_isHeld_57 ?_
        refine a_bipush (30) hX dX8_isHeld_60 (by decide) ?_
        refine a_iload hX dX8_isHeld_62 rfl ?_
        refine a_imul hX dX8_isHeld_64 ?_
        refine a_iload_n hX dX8_isHeld_65 rfl ?_
        refine a_bipush (30) hX dX8_isHeld_66 (by decide) ?_
        refine a_irem hX dX8_isHeld_68 (by decide) ?_
        rw [hm30]
        refine a_iadd hX dX8_isHeld_69 ?_
        rw [n30]
        refine a_iald ((30 * (120 * P + d / 30) + d % 30)) hX rfl rfl (show _ < 21600 by omega) dX8_isHeld_70 ?_
        refine a_if_eq 78 hX dX8_isHeld_71 (by decide) (fun c_71 => ?_) (fun c_71 => ?_)
        · refine a_iconst (0) hX dX8_isHeld_78 (by decide) ?_
          refine a_iret hX hR dX8_isHeld_79 ⟨Nat.le_refl _, Nat.le_refl _⟩ rfl ?_
          exact po_int h (by
            unfold hdN
            rcases h0 with e | e | e | e <;> rw [e] at c1 c3 ⊢ <;> simp at c1 c3 ⊢ <;> grind [bI])
        · refine a_iconst (1) hX dX8_isHeld_74 (by decide) ?_
          refine a_goto 79 hX dX8_isHeld_75 (by decide) ?_
          refine a_iret hX hR dX8_isHeld_79 ⟨Nat.le_refl _, Nat.le_refl _⟩ rfl ?_
          exact po_int h (by
            unfold hdN
            rcases h0 with e | e | e | e <;> rw [e] at c1 c3 ⊢ <;> simp at c1 c3 ⊢ <;> grind [bI])
      · refine a_iload_n hX dX8_isHeld_46 rfl ?_
        refine a_if_ne 54 hX dX8_isHeld_47 (by decide) (fun c_47 => ?_) (fun c_47 => ?_)
        · refine a_iconst (0) hX dX8_isHeld_54 (by decide) ?_
          refine a_iret hX hR dX8_isHeld_55 ⟨Nat.le_refl _, Nat.le_refl _⟩ rfl ?_
          exact po_int h (by
            unfold hdN
            rcases h0 with e | e | e | e <;> rw [e] at c1 c3 ⊢ <;> simp at c1 c3 ⊢ <;> grind [bI])
        · refine a_iconst (1) hX dX8_isHeld_50 (by decide) ?_
          refine a_goto 55 hX dX8_isHeld_51 (by decide) ?_
          refine a_iret hX hR dX8_isHeld_55 ⟨Nat.le_refl _, Nat.le_refl _⟩ rfl ?_
          exact po_int h (by
            unfold hdN
            rcases h0 with e | e | e | e <;> rw [e] at c1 c3 ⊢ <;> simp at c1 c3 ⊢ <;> grind [bI])
  · refine a_iconst (1) hX dX8_isHeld_21 (by decide) ?_
    refine a_iret hX hR dX8_isHeld_22 ⟨Nat.le_refl _, Nat.le_refl _⟩ rfl ?_
    exact po_int h (by
      unfold hdN
      rcases h0 with e | e | e | e <;> rw [e] at c1 c3 ⊢ <;> simp at c1 c3 ⊢ <;> grind [bI])
abbrev T_X8_has : Tr := fun lay av w Po => ∃ (PP : Nat → Nat → Int32) (k d : Nat) (c : Int32), av = [.ref (lay 221), .int c, .int (nI k), .int (nI d)] ∧ (MPl w PP) ∧ (vP PP) ∧ (k < 12) ∧ (d < 3600) ∧ (c = 6 ∨ c = 7) ∧ Po (some (.int (hsN PP c k d 12))) w
set_option maxRecDepth 100000 in
set_option maxHeartbeats 4000000 in
theorem c_X8_has : Ct yX8_has cX8_has 5 (some .int) 0 0 0 T_X8_has := by
  refine Ct.mk (by decide +kernel) ?_
  intro X av w Po hX hR hT
  obtain ⟨PP, k, d, c, rfl, hM, hv, hk, hd, hc, h⟩ := hT
  refine ⟨rfl, ?_⟩
  show A X 0 0 0 [some (.ref (xlay X 221)), some (.int c), some (.int (nI k)), some (.int (nI d)), none] [] w
  refine a_iconst (0) hX dX8_has_0 (by decide) ?_
  refine a_istore (ls' := [_, _, _, _, _]) hX dX8_has_1 (Nat.le_of_ble_eq_true rfl) rfl ?_
  have L3 : ∀ (fu : Nat) (s : Nat), 12 - s < fu → (s ≤ 12) → (∀ j, j < s → ¬ ((PP j 0 = c ∧ PP j 5 = -1 ∧ bt (PP j 4) k = true) ∧ ix (PP j 1) ≤ d ∧ d ≤ ix (PP j 2))) → A X 0 0 3 [some (.ref (xlay X 221)), some (.int c), some (.int (nI k)), some (.int (nI d)), some (.int (nI s))] [] w := by
    intro fu
    induction fu with
    | zero => intro s hmu; exact absurd hmu (Nat.not_lt_zero _)
    | succ fu ih =>
      intro s hmu hs hno
      refine a_iload hX dX8_has_3 rfl ?_
      refine a_bipush (12) hX dX8_has_5 (by decide) ?_
      refine a_icmp_ge 78 hX dX8_has_7 (by decide) (fun c_7 => ?_) (fun c_7 => ?_)
      · refine a_iconst (-1) hX dX8_has_78 (by decide) ?_
        refine a_iret hX hR dX8_has_79 ⟨Nat.le_refl _, Nat.le_refl _⟩ rfl ?_
        have hs12 : s = 12 := by
          have := le_of_c (b := 12) c_7 (by omega) (by omega)
          omega
        subst hs12
        exact po_int h (hsN_none hno)
      · have hs12 : s < 12 := lt_of_c (b := 12) c_7 (by omega) (by omega)
        have hcs : (w.1 224 s = c ∧ w.1 232 s = -1 ∧ bt (w.1 228 s) k = true ∧ w.1 225 s ≤ nI d ∧ nI d ≤ w.1 226 s) ↔ ((PP s 0 = c ∧ PP s 5 = -1 ∧ bt (PP s 4) k = true) ∧ ix (PP s 1) ≤ d ∧ d ≤ ix (PP s 2)) := by
          obtain ⟨a0, a4, -, -, -, a5, a1, a2, -⟩ := hM s hs12
          obtain ⟨-, ⟨f, hf, ef⟩, ⟨t, ht, et⟩, -⟩ := hv s hs12
          rw [a0, a5, a4]
          have key : PP s 0 = c → ((w.1 225 s ≤ nI d ∧ nI d ≤ w.1 226 s) ↔ (ix (PP s 1) ≤ d ∧ d ≤ ix (PP s 2))) := fun z => by
            have h27 : 2 ≤ PP s 0 ∧ PP s 0 ≤ 7 := by
              rw [z]
              rcases hc with rfl | rfl <;> decide
            have h67 : PP s 0 = 6 ∨ PP s 0 = 7 := by rw [z]; exact hc
            rw [a1 h27, a2 h67, ef, et, ix_nI (by omega), ix_nI (by omega), nI_leI (by omega) (by omega), nI_leI (by omega) (by omega)]
          constructor
          · rintro ⟨z1, z2, z3, z4⟩
            exact ⟨⟨z1, z2, z3⟩, (key z1).mp z4⟩
          · rintro ⟨⟨z1, z2, z3⟩, z4⟩
            exact ⟨z1, z2, z3, (key z1).mpr z4⟩
        refine a_aload_n hX dX8_has_10 rfl ?_
        refine gf_X8_20 rfl hX dX8_has_11 ?_
        refine a_iload hX dX8_has_14 rfl ?_
        refine a_iald (s) hX rfl rfl (show _ < 12 by omega) dX8_has_16 ?_
        refine a_iload_n hX dX8_has_17 rfl ?_
        refine a_icmp_ne 72 hX dX8_has_18 (by decide) (fun c_18 => ?_) (fun c_18 => ?_)
        · have hno' : ∀ j, j < s + 1 → ¬ ((PP j 0 = c ∧ PP j 5 = -1 ∧ bt (PP j 4) k = true) ∧ ix (PP j 1) ≤ d ∧ d ≤ ix (PP j 2)) := fun j hj => by
            rcases Nat.lt_or_ge j s with q | q
            · exact hno j q
            · have : j = s := by omega
              subst this
              intro z
              obtain ⟨z1, z2, z3, z4, z5⟩ := hcs.mpr z
              first
              | exact c_18 z1
              | exact c_29 z2
              | exact c_44 ((bt_1c (by omega)).mpr z3)
              | exact absurd z4 (by first | exact Int32.not_le.mpr c_55 | exact c_55)
              | exact absurd z5 (by first | exact Int32.not_le.mpr c_66 | exact c_66)
          refine a_iinc (ls' := [_, _, _, _, _]) (nI (s + 1)) hX dX8_has_72 rfl (nI_i1 s) rfl ?_
          refine a_goto 3 hX dX8_has_75 (by decide) ?_
          exact ih (s + 1) (by omega) (by omega) hno'
        · refine a_aload_n hX dX8_has_21 rfl ?_
          refine gf_X8_44 rfl hX dX8_has_22 ?_
          refine a_iload hX dX8_has_25 rfl ?_
          refine a_iald (s) hX rfl rfl (show _ < 12 by omega) dX8_has_27 ?_
          refine a_iconst (-1) hX dX8_has_28 (by decide) ?_
          refine a_icmp_ne 72 hX dX8_has_29 (by decide) (fun c_29 => ?_) (fun c_29 => ?_)
          · have hno' : ∀ j, j < s + 1 → ¬ ((PP j 0 = c ∧ PP j 5 = -1 ∧ bt (PP j 4) k = true) ∧ ix (PP j 1) ≤ d ∧ d ≤ ix (PP j 2)) := fun j hj => by
              rcases Nat.lt_or_ge j s with q | q
              · exact hno j q
              · have : j = s := by omega
                subst this
                intro z
                obtain ⟨z1, z2, z3, z4, z5⟩ := hcs.mpr z
                first
                | exact c_18 z1
                | exact c_29 z2
                | exact c_44 ((bt_1c (by omega)).mpr z3)
                | exact absurd z4 (by first | exact Int32.not_le.mpr c_55 | exact c_55)
                | exact absurd z5 (by first | exact Int32.not_le.mpr c_66 | exact c_66)
            refine a_iinc (ls' := [_, _, _, _, _]) (nI (s + 1)) hX dX8_has_72 rfl (nI_i1 s) rfl ?_
            refine a_goto 3 hX dX8_has_75 (by decide) ?_
            exact ih (s + 1) (by omega) (by omega) hno'
          · refine a_aload_n hX dX8_has_32 rfl ?_
            refine gf_X8_32 rfl hX dX8_has_33 ?_
            refine a_iload hX dX8_has_36 rfl ?_
            refine a_iald (s) hX rfl rfl (show _ < 12 by omega) dX8_has_38 ?_
            refine a_iload_n hX dX8_has_39 rfl ?_
            refine a_ishr hX dX8_has_40 ?_
            refine a_iconst (1) hX dX8_has_41 (by decide) ?_
            refine a_iand hX dX8_has_42 ?_
            refine a_iconst (1) hX dX8_has_43 (by decide) ?_
            refine a_icmp_ne 72 hX dX8_has_44 (by decide) (fun c_44 => ?_) (fun c_44 => ?_)
            · have hno' : ∀ j, j < s + 1 → ¬ ((PP j 0 = c ∧ PP j 5 = -1 ∧ bt (PP j 4) k = true) ∧ ix (PP j 1) ≤ d ∧ d ≤ ix (PP j 2)) := fun j hj => by
                rcases Nat.lt_or_ge j s with q | q
                · exact hno j q
                · have : j = s := by omega
                  subst this
                  intro z
                  obtain ⟨z1, z2, z3, z4, z5⟩ := hcs.mpr z
                  first
                  | exact c_18 z1
                  | exact c_29 z2
                  | exact c_44 ((bt_1c (by omega)).mpr z3)
                  | exact absurd z4 (by first | exact Int32.not_le.mpr c_55 | exact c_55)
                  | exact absurd z5 (by first | exact Int32.not_le.mpr c_66 | exact c_66)
              refine a_iinc (ls' := [_, _, _, _, _]) (nI (s + 1)) hX dX8_has_72 rfl (nI_i1 s) rfl ?_
              refine a_goto 3 hX dX8_has_75 (by decide) ?_
              exact ih (s + 1) (by omega) (by omega) hno'
            · refine a_aload_n hX dX8_has_47 rfl ?_
              refine gf_X8_23 rfl hX dX8_has_48 ?_
              refine a_iload hX dX8_has_51 rfl ?_
              refine a_iald (s) hX rfl rfl (show _ < 12 by omega) dX8_has_53 ?_
              refine a_iload_n hX dX8_has_54 rfl ?_
              refine a_icmp_gt 72 hX dX8_has_55 (by decide) (fun c_55 => ?_) (fun c_55 => ?_)
              · have hno' : ∀ j, j < s + 1 → ¬ ((PP j 0 = c ∧ PP j 5 = -1 ∧ bt (PP j 4) k = true) ∧ ix (PP j 1) ≤ d ∧ d ≤ ix (PP j 2)) := fun j hj => by
                  rcases Nat.lt_or_ge j s with q | q
                  · exact hno j q
                  · have : j = s := by omega
                    subst this
                    intro z
                    obtain ⟨z1, z2, z3, z4, z5⟩ := hcs.mpr z
                    first
                    | exact c_18 z1
                    | exact c_29 z2
                    | exact c_44 ((bt_1c (by omega)).mpr z3)
                    | exact absurd z4 (by first | exact Int32.not_le.mpr c_55 | exact c_55)
                    | exact absurd z5 (by first | exact Int32.not_le.mpr c_66 | exact c_66)
                refine a_iinc (ls' := [_, _, _, _, _]) (nI (s + 1)) hX dX8_has_72 rfl (nI_i1 s) rfl ?_
                refine a_goto 3 hX dX8_has_75 (by decide) ?_
                exact ih (s + 1) (by omega) (by omega) hno'
              · refine a_aload_n hX dX8_has_58 rfl ?_
                refine gf_X8_26 rfl hX dX8_has_59 ?_
                refine a_iload hX dX8_has_62 rfl ?_
                refine a_iald (s) hX rfl rfl (show _ < 12 by omega) dX8_has_64 ?_
                refine a_iload_n hX dX8_has_65 rfl ?_
                refine a_icmp_lt 72 hX dX8_has_66 (by decide) (fun c_66 => ?_) (fun c_66 => ?_)
                · have hno' : ∀ j, j < s + 1 → ¬ ((PP j 0 = c ∧ PP j 5 = -1 ∧ bt (PP j 4) k = true) ∧ ix (PP j 1) ≤ d ∧ d ≤ ix (PP j 2)) := fun j hj => by
                    rcases Nat.lt_or_ge j s with q | q
                    · exact hno j q
                    · have : j = s := by omega
                      subst this
                      intro z
                      obtain ⟨z1, z2, z3, z4, z5⟩ := hcs.mpr z
                      first
                      | exact c_18 z1
                      | exact c_29 z2
                      | exact c_44 ((bt_1c (by omega)).mpr z3)
                      | exact absurd z4 (by first | exact Int32.not_le.mpr c_55 | exact c_55)
                      | exact absurd z5 (by first | exact Int32.not_le.mpr c_66 | exact c_66)
                  refine a_iinc (ls' := [_, _, _, _, _]) (nI (s + 1)) hX dX8_has_72 rfl (nI_i1 s) rfl ?_
                  refine a_goto 3 hX dX8_has_75 (by decide) ?_
                  exact ih (s + 1) (by omega) (by omega) hno'
                · refine a_iload hX dX8_has_69 rfl ?_
                  refine a_iret hX hR dX8_has_71 ⟨Nat.le_refl _, Nat.le_refl _⟩ rfl ?_
                  have hcd := hcs.mp ⟨c_18, c_29, (bt_1c (by omega)).mp c_44, (by first | exact Int32.not_lt.mp c_55 | exact c_55), (by first | exact Int32.not_lt.mp c_66 | exact c_66)⟩
                  exact po_int h (hsN_some hs12 hcd hno hs12)
  exact L3 13 0 (by omega) (by omega) (fun j hj => by omega)
abbrev T_X8_isReady : Tr := fun lay av w Po => ∃ (PP : Nat → Nat → Int32) (k : Nat) (dn : Nat → Bool), av = [.ref (lay 221), .int (nI k)] ∧ (MPl w PP) ∧ (vP PP) ∧ (k < 12) ∧ (∀ o, o < 12 → w.1 237 o = if dn o then 1 else 0) ∧ Po (some (.int (bI (anyF (fun x => depB PP k x && !dn x) 12 = false)))) w
set_option maxRecDepth 100000 in
set_option maxHeartbeats 4000000 in
theorem c_X8_isReady : Ct yX8_isReady cX8_isReady 3 (some .boolean) 2 0 0 T_X8_isReady := by
  refine Ct.mk (by decide +kernel) ?_
  intro X av w Po hX hR hT
  obtain ⟨PP, k, dn, rfl, hM, hv, hk, hdn, h⟩ := hT
  refine ⟨rfl, ?_⟩
  show A X 0 0 0 [some (.ref (xlay X 221)), some (.int (nI k)), none] [] w
  refine a_iconst (0) hX dX8_isReady_0 (by decide) ?_
  refine a_istore_n (ls' := [_, _, _]) hX dX8_isReady_1 (Nat.le_of_ble_eq_true rfl) rfl ?_
  have L2 : ∀ (fu : Nat) (o : Nat), 12 - o < fu → (o ≤ 12) → (∀ j, j < o → (depB PP k j && !dn j) = false) → A X 0 0 2 [some (.ref (xlay X 221)), some (.int (nI k)), some (.int (nI o))] [] w := by
    intro fu
    induction fu with
    | zero => intro o hmu; exact absurd hmu (Nat.not_lt_zero _)
    | succ fu ih =>
      intro o hmu hoo hno
      refine a_iload_n hX dX8_isReady_2 rfl ?_
      refine a_bipush (12) hX dX8_isReady_3 (by decide) ?_
      refine a_icmp_ge 57 hX dX8_isReady_5 (by decide) (fun c_5 => ?_) (fun c_5 => ?_)
      · refine a_iconst (1) hX dX8_isReady_57 (by decide) ?_
        refine a_iret hX hR dX8_isReady_58 ⟨Nat.le_refl _, Nat.le_refl _⟩ rfl ?_
        have ho12 : o = 12 := by
          have := le_of_c (b := 12) c_5 (by omega) (by omega)
          omega
        subst ho12
        have ha : anyF (fun x => depB PP k x && !dn x) 12 = false := by
          cases hz : anyF (fun x => depB PP k x && !dn x) 12
          · rfl
          · obtain ⟨i, hi, hp⟩ := anyF_iff.mp hz
            have hp : (depB PP k i && !dn i) = true := hp
            rw [hno i hi] at hp
            cases hp
        exact po_int h (by rw [ha]; rfl)
      · have ho12 : o < 12 := lt_of_c (b := 12) c_5 (by omega) (by omega)
        have hdc := depB_cell hM hk ho12
        have ht2 : w.1 224 k = 2 → ¬ depB PP k o = true := fun z y => by
          have h4 := (hv k hk).2.2.2.2.2.2.2.2.2 (by rw [← (hM k hk).1]; exact z)
          unfold depB at y
          rw [h4, b_0] at y
          cases y
        refine a_aload_n hX dX8_isReady_8 rfl ?_
        refine gf_X8_20 rfl hX dX8_isReady_9 ?_
        refine a_iload_n hX dX8_isReady_12 rfl ?_
        refine a_iald (k) hX rfl rfl (show _ < 12 by omega) dX8_isReady_13 ?_
        refine a_iconst (2) hX dX8_isReady_14 (by decide) ?_
        refine a_icmp_eq 51 hX dX8_isReady_15 (by decide) (fun c_15 => ?_) (fun c_15 => ?_)
        · have hno' : ∀ j, j < o + 1 → (depB PP k j && !dn j) = false := fun j hj => by
            rcases Nat.lt_or_ge j o with q | q
            · exact hno j q
            · have : j = o := by omega
              subst this
              cases hz : (depB PP k j && !dn j)
              · rfl
              · rw [Bool.and_eq_true] at hz
                have hzz := hdc.mp hz.1
                exfalso
                first
                | exact ht2 c_15 hz.1
                | exact c_29 ((bt_1c (by omega)).mpr hzz.1)
                | exact c_37 hzz.2
                | (have h9 := hz.2
                   have h8 := hdn j ho12
                   cases hdj : dn j
                   · rw [hdj] at h8
                     exact c_46 h8
                   · rw [hdj] at h9
                     cases h9)
          refine a_iinc (ls' := [_, _, _]) (nI (o + 1)) hX dX8_isReady_51 rfl (nI_i1 o) rfl ?_
          refine a_goto 2 hX dX8_isReady_54 (by decide) ?_
          exact ih (o + 1) (by omega) (by omega) hno'
        · refine a_aload_n hX dX8_isReady_18 rfl ?_
          refine gf_X8_32 rfl hX dX8_isReady_19 ?_
          refine a_iload_n hX dX8_isReady_22 rfl ?_
          refine a_iald (k) hX rfl rfl (show _ < 12 by omega) dX8_isReady_23 ?_
          refine a_iload_n hX dX8_isReady_24 rfl ?_
          refine a_ishr hX dX8_isReady_25 ?_
          refine a_iconst (1) hX dX8_isReady_26 (by decide) ?_
          refine a_iand hX dX8_isReady_27 ?_
          refine a_iconst (1) hX dX8_isReady_28 (by decide) ?_
          refine a_icmp_ne 51 hX dX8_isReady_29 (by decide) (fun c_29 => ?_) (fun c_29 => ?_)
          · have hno' : ∀ j, j < o + 1 → (depB PP k j && !dn j) = false := fun j hj => by
              rcases Nat.lt_or_ge j o with q | q
              · exact hno j q
              · have : j = o := by omega
                subst this
                cases hz : (depB PP k j && !dn j)
                · rfl
                · rw [Bool.and_eq_true] at hz
                  have hzz := hdc.mp hz.1
                  exfalso
                  first
                  | exact ht2 c_15 hz.1
                  | exact c_29 ((bt_1c (by omega)).mpr hzz.1)
                  | exact c_37 hzz.2
                  | (have h9 := hz.2
                     have h8 := hdn j ho12
                     cases hdj : dn j
                     · rw [hdj] at h8
                       exact c_46 h8
                     · rw [hdj] at h9
                       cases h9)
            refine a_iinc (ls' := [_, _, _]) (nI (o + 1)) hX dX8_isReady_51 rfl (nI_i1 o) rfl ?_
            refine a_goto 2 hX dX8_isReady_54 (by decide) ?_
            exact ih (o + 1) (by omega) (by omega) hno'
          · refine a_aload_n hX dX8_isReady_32 rfl ?_
            refine a_iload_n hX dX8_isReady_33 rfl ?_
            refine a_callV [_] hX c_X8_isLive mi_X8_isLive mv_X8_isLive se_X8_isLive (klt rfl (by decide)) (adr_lt (kd_lt rfl (by decide))) (cell_8 rfl) rfl li_X8_121 (by decide) rfl rfl (Nat.le_of_ble_eq_true rfl) (fun q => q) dX8_isReady_34 ⟨_, rfl, (by assumption), ?_⟩
            refine a_if_eq_b 51 hX dX8_isReady_37 (by decide) (fun c_37 => ?_) (fun c_37 => ?_)
            · have hno' : ∀ j, j < o + 1 → (depB PP k j && !dn j) = false := fun j hj => by
                rcases Nat.lt_or_ge j o with q | q
                · exact hno j q
                · have : j = o := by omega
                  subst this
                  cases hz : (depB PP k j && !dn j)
                  · rfl
                  · rw [Bool.and_eq_true] at hz
                    have hzz := hdc.mp hz.1
                    exfalso
                    first
                    | exact ht2 c_15 hz.1
                    | exact c_29 ((bt_1c (by omega)).mpr hzz.1)
                    | exact c_37 hzz.2
                    | (have h9 := hz.2
                       have h8 := hdn j ho12
                       cases hdj : dn j
                       · rw [hdj] at h8
                         exact c_46 h8
                       · rw [hdj] at h9
                         cases h9)
              refine a_iinc (ls' := [_, _, _]) (nI (o + 1)) hX dX8_isReady_51 rfl (nI_i1 o) rfl ?_
              refine a_goto 2 hX dX8_isReady_54 (by decide) ?_
              exact ih (o + 1) (by omega) (by omega) hno'
            · refine a_aload_n hX dX8_isReady_40 rfl ?_
              refine gf_X8_60 rfl hX dX8_isReady_41 ?_
              refine a_iload_n hX dX8_isReady_44 rfl ?_
              refine a_zald (o) hX rfl rfl (show _ < 12 by omega) dX8_isReady_45 ?_
              refine a_if_ne 51 hX dX8_isReady_46 (by decide) (fun c_46 => ?_) (fun c_46 => ?_)
              · have hno' : ∀ j, j < o + 1 → (depB PP k j && !dn j) = false := fun j hj => by
                  rcases Nat.lt_or_ge j o with q | q
                  · exact hno j q
                  · have : j = o := by omega
                    subst this
                    cases hz : (depB PP k j && !dn j)
                    · rfl
                    · rw [Bool.and_eq_true] at hz
                      have hzz := hdc.mp hz.1
                      exfalso
                      first
                      | exact ht2 c_15 hz.1
                      | exact c_29 ((bt_1c (by omega)).mpr hzz.1)
                      | exact c_37 hzz.2
                      | (have h9 := hz.2
                         have h8 := hdn j ho12
                         cases hdj : dn j
                         · rw [hdj] at h8
                           exact c_46 h8
                         · rw [hdj] at h9
                           cases h9)
                refine a_iinc (ls' := [_, _, _]) (nI (o + 1)) hX dX8_isReady_51 rfl (nI_i1 o) rfl ?_
                refine a_goto 2 hX dX8_isReady_54 (by decide) ?_
                exact ih (o + 1) (by omega) (by omega) hno'
              · refine a_iconst (0) hX dX8_isReady_49 (by decide) ?_
                refine a_iret hX hR dX8_isReady_50 ⟨Nat.le_refl _, Nat.le_refl _⟩ rfl ?_
                have hz : (depB PP k o && !dn o) = true := by
                  rw [Bool.and_eq_true]
                  refine ⟨hdc.mpr ⟨(bt_1c (by omega)).mp c_29, c_37⟩, ?_⟩
                  have h8 := hdn o ho12
                  cases hdj : dn o
                  · rfl
                  · rw [hdj] at h8
                    exact absurd (h8.symm.trans (by first | exact c_46 | exact Decidable.not_not.mp c_46)) (by decide)
                have ha : anyF (fun x => depB PP k x && !dn x) 12 = true := anyF_iff.mpr ⟨o, ho12, hz⟩
                exact po_int h (by rw [ha]; rfl)
  exact L2 13 0 (by omega) (by omega) (fun j hj => by omega)
abbrev T_X8_beginning : Tr := fun lay av w Po => ∃ (PP : Nat → Nat → Int32) (k : Nat) (be en : Nat → Nat), av = [.ref (lay 221), .int (nI k)] ∧ (MPl w PP) ∧ (vP PP) ∧ (k < 12) ∧ (stB PP k = true) ∧ (∀ i, i < 12 → depB PP k i = true → (w.1 238 i = nvI (be i) ∧ bdN (be i)) ∧ (w.1 239 i = nvI (en i) ∧ bdN (en i))) ∧ Po (some (.int (nvI (bgN PP be en k)))) w
set_option maxRecDepth 100000 in
set_option maxHeartbeats 4000000 in
theorem c_X8_beginning : Ct yX8_beginning cX8_beginning 6 (some .int) 2 0 0 T_X8_beginning := by
  refine Ct.mk (by decide +kernel) ?_
  intro X av w Po hX hR hT
  obtain ⟨PP, k, be, en, rfl, hM, hv, hk, hst, hbe, h⟩ := hT
  refine ⟨rfl, ?_⟩
  show A X 0 0 0 [some (.ref (xlay X 221)), some (.int (nI k)), none, none, none, none] [] w
  obtain ⟨f, hf, ef⟩ := (hv k hk).2.1
  have hrk : 2 ≤ PP k 0 ∧ PP k 0 ≤ 5 := by
    unfold stB at hst
    rw [decide_eq_true_eq] at hst
    exact hst.1
  have hk0 := (hM k hk).1
  have hf0 : w.1 225 k = PP k 1 := (hM k hk).2.2.2.2.2.2.1 ⟨hrk.1, Int32.le_trans hrk.2 (by decide)⟩
  have hxf : ix (PP k 1) = f := by rw [ef]; exact ix_nI (by omega)
  refine a_aload_n hX dX8_beginning_0 rfl ?_
  refine gf_X8_20 rfl hX dX8_beginning_1 ?_
  refine a_iload_n hX dX8_beginning_4 rfl ?_
  refine a_iald (k) hX rfl rfl (show _ < 12 by omega) dX8_beginning_5 ?_
  refine a_iconst (2) hX dX8_beginning_6 (by decide) ?_
  refine a_icmp_ne 17 hX dX8_beginning_7 (by decide) (fun c_7 => ?_) (fun c_7 => ?_)
  · refine a_aload_n hX dX8_beginning_17 rfl ?_
    refine gf_X8_23 rfl hX dX8_beginning_18 ?_
    refine a_iload_n hX dX8_beginning_21 rfl ?_
    refine a_iald (k) hX rfl rfl (show _ < 12 by omega) dX8_beginning_22 ?_
    refine a_istore_n (ls' := [_, _, _, _, _, _]) hX dX8_beginning_23 (Nat.le_of_ble_eq_true rfl) rfl ?_
    refine a_iconst (-1) hX dX8_beginning_24 (by decide) ?_
    refine a_istore_n (ls' := [_, _, _, _, _, _]) hX dX8_beginning_25 (Nat.le_of_ble_eq_true rfl) rfl ?_
    refine a_iconst (0) hX dX8_beginning_26 (by decide) ?_
    refine a_istore (ls' := [_, _, _, _, _, _]) hX dX8_beginning_27 (Nat.le_of_ble_eq_true rfl) rfl ?_
    refine a_iconst (0) hX dX8_beginning_29 (by decide) ?_
    refine a_istore (ls' := [_, _, _, _, _, _]) hX dX8_beginning_30 (Nat.le_of_ble_eq_true rfl) rfl ?_
    have L32 : ∀ (fu : Nat) (o : Nat) (dayV leastV anyV : Int32), 12 - o < fu → (o ≤ 12) → ((anyV = if anyF (depB PP k) o then 1 else 0) ∧ (w.1 224 k = 4 → dayV = PP k 1 ∧ leastV = nvI (minF (depB PP k) be 100000 o)) ∧ (w.1 224 k ≠ 4 → dayV = nI (maxF (depB PP k) (fun i => en i + 1) (ix (PP k 1)) o) ∧ ∀ j, j < o → depB PP k j = true → en j < 3600)) → A X 0 0 32 [some (.ref (xlay X 221)), some (.int (nI k)), some (.int dayV), some (.int leastV), some (.int anyV), some (.int (nI o))] [] w := by
      intro fu
      induction fu with
      | zero => intro o dayV leastV anyV hmu; exact absurd hmu (Nat.not_lt_zero _)
      | succ fu ih =>
        intro o dayV leastV anyV hmu hoo hinv
        refine a_iload hX dX8_beginning_32 rfl ?_
        refine a_bipush (12) hX dX8_beginning_34 (by decide) ?_
        refine a_icmp_ge 158 hX dX8_beginning_36 (by decide) (fun c_36 => ?_) (fun c_36 => ?_)
        · have ho12 : o = 12 := by
            have := le_of_c (b := 12) c_36 (by omega) (by omega)
            omega
          subst ho12
          refine a_aload_n hX dX8_beginning_158 rfl ?_
          refine gf_X8_20 rfl hX dX8_beginning_159 ?_
          refine a_iload_n hX dX8_beginning_162 rfl ?_
          refine a_iald (k) hX rfl rfl (show _ < 12 by omega) dX8_beginning_163 ?_
          refine a_iconst (4) hX dX8_beginning_164 (by decide) ?_
          refine a_icmp_ne 191 hX dX8_beginning_165 (by decide) (fun c_165 => ?_) (fun c_165 => ?_)
          · refine a_iload_n hX dX8_beginning_191 rfl ?_
            refine a_sipush (3600) hX dX8_beginning_192 (by decide) ?_
            refine a_icmp_lt 202 hX dX8_beginning_195 (by decide) (fun c_195 => ?_) (fun c_195 => ?_)
            · refine a_iload_n hX dX8_beginning_202 rfl ?_
              refine a_iret hX hR dX8_beginning_203 ⟨Nat.le_refl _, Nat.le_refl _⟩ rfl ?_
              first
              | (have c165 : w.1 224 k = 4 := by first | exact c_165 | exact Decidable.not_not.mp c_165
                 obtain ⟨hday, hlst⟩ := hinv.2.1 c165
                 have hmb : bdN (minF (depB PP k) be 100000 12) := by
                   have h9 := minF_bd (p := fun i => depB PP k i && decide (i < 12)) (f := be) (fun i hi => by
                     rw [Bool.and_eq_true, decide_eq_true_eq] at hi
                     exact (hbe i hi.2 hi.1).1.2) 12
                   rw [minF_p (q := depB PP k) (fun i hi => by rw [decide_eq_true (show i < 12 by omega), Bool.and_true])] at h9
                   exact h9
                 have hany : anyF (depB PP k) 12 = true := by
                   cases hz : anyF (depB PP k) 12
                   · exact absurd (by rw [hinv.1, hz]; rfl) c_170
                   · rfl
                 have hmm : minF (depB PP k) be 100000 12 ≠ 100000 := fun y => c_175 (by rw [hlst]; exact (nvI_m1 hmb).mpr y)
                 have hml : minF (depB PP k) be 100000 12 < 3600 := by unfold bdN at hmb; omega
                 rw [hlst, hday, nvI_lt hmm, ef] at c_182
                 exact po_int h (by
                   unfold bgN
                   rw [if_pos (by rw [← hk0]; exact c165), if_pos hany, hxf]
                   first
                   | (have h3 := (nI_leI (by omega) (by omega)).mp c_182
                      rw [Nat.max_eq_left h3, cutN_lo hf, nvI_lt (by omega), hday, ef])
                   | (have h3 := (nI_ltI (by omega) (by omega)).mp (lt_nle c_182)
                      rw [Nat.max_eq_right (by omega), cutN_lo hml, nvI_lt hmm, hlst, nvI_lt hmm])))
              | (have c165 : w.1 224 k = 4 := by first | exact c_165 | exact Decidable.not_not.mp c_165
                 obtain ⟨hday, hlst⟩ := hinv.2.1 c165
                 have hany : anyF (depB PP k) 12 = false := by
                   cases hz : anyF (depB PP k) 12
                   · rfl
                   · exact absurd (by rw [← c_170, hinv.1, hz]; rfl) (show ¬ ((1 : Int32) = 0) by decide)
                 exact po_int h (by
                   unfold bgN
                   rw [if_pos (by rw [← hk0]; exact c165), if_neg (by rw [hany]; simp), hxf, cutN_lo hf, nvI_lt (by omega), hday, ef]))
              | (obtain ⟨hday, hall⟩ := hinv.2.2 c_165
                 have hmb : maxF (depB PP k) (fun i => en i + 1) (ix (PP k 1)) 12 ≤ 3600 := maxF_le (by omega) (fun j hj hp => by have := hall j hj hp; omega)
                 rw [hday] at c_195
                 have h3 := (nI_ltI (b := 3600) (by omega) (by decide)).mp c_195
                 exact po_int h (by
                   unfold bgN
                   rw [if_neg (by rw [← hk0]; exact c_165), cutN_lo h3, nvI_lt (by omega), hday]))
            · refine a_iconst (-1) hX dX8_beginning_198 (by decide) ?_
              refine a_goto 203 hX dX8_beginning_199 (by decide) ?_
              refine a_iret hX hR dX8_beginning_203 ⟨Nat.le_refl _, Nat.le_refl _⟩ rfl ?_
              first
              | (obtain ⟨hday, hall⟩ := hinv.2.2 c_165
                 have hmb : maxF (depB PP k) (fun i => en i + 1) (ix (PP k 1)) 12 ≤ 3600 := maxF_le (by omega) (fun j hj hp => by have := hall j hj hp; omega)
                 rw [hday] at c_195
                 have h3 : ¬ maxF (depB PP k) (fun i => en i + 1) (ix (PP k 1)) 12 < 3600 := fun y => c_195 (nI_lt y (by decide))
                 exact po_int h (by
                   unfold bgN
                   rw [if_neg (by rw [← hk0]; exact c_165), cutN_hi (by omega)]
                   rfl))
              | (exfalso
                 have c165 : w.1 224 k = 4 := by first | exact c_165 | exact Decidable.not_not.mp c_165
                 obtain ⟨hday, hlst⟩ := hinv.2.1 c165
                 first
                 | (rw [hday, ef] at c_195
                    exact c_195 (nI_lt hf (by decide)))
                 | (have hmb : bdN (minF (depB PP k) be 100000 12) := by
                      have h9 := minF_bd (p := fun i => depB PP k i && decide (i < 12)) (f := be) (fun i hi => by
                        rw [Bool.and_eq_true, decide_eq_true_eq] at hi
                        exact (hbe i hi.2 hi.1).1.2) 12
                      rw [minF_p (q := depB PP k) (fun i hi => by rw [decide_eq_true (show i < 12 by omega), Bool.and_true])] at h9
                      exact h9
                    have hmm : minF (depB PP k) be 100000 12 ≠ 100000 := fun y => c_175 (by rw [hlst]; exact (nvI_m1 hmb).mpr y)
                    have hml : minF (depB PP k) be 100000 12 < 3600 := by unfold bdN at hmb; omega
                    rw [hlst, nvI_lt hmm] at c_195
                    exact c_195 (nI_lt hml (by decide))))
          · refine a_iload hX dX8_beginning_168 rfl ?_
            refine a_if_eq 191 hX dX8_beginning_170 (by decide) (fun c_170 => ?_) (fun c_170 => ?_)
            · refine a_iload_n hX dX8_beginning_191 rfl ?_
              refine a_sipush (3600) hX dX8_beginning_192 (by decide) ?_
              refine a_icmp_lt 202 hX dX8_beginning_195 (by decide) (fun c_195 => ?_) (fun c_195 => ?_)
              · refine a_iload_n hX dX8_beginning_202 rfl ?_
                refine a_iret hX hR dX8_beginning_203 ⟨Nat.le_refl _, Nat.le_refl _⟩ rfl ?_
                first
                | (have c165 : w.1 224 k = 4 := by first | exact c_165 | exact Decidable.not_not.mp c_165
                   obtain ⟨hday, hlst⟩ := hinv.2.1 c165
                   have hmb : bdN (minF (depB PP k) be 100000 12) := by
                     have h9 := minF_bd (p := fun i => depB PP k i && decide (i < 12)) (f := be) (fun i hi => by
                       rw [Bool.and_eq_true, decide_eq_true_eq] at hi
                       exact (hbe i hi.2 hi.1).1.2) 12
                     rw [minF_p (q := depB PP k) (fun i hi => by rw [decide_eq_true (show i < 12 by omega), Bool.and_true])] at h9
                     exact h9
                   have hany : anyF (depB PP k) 12 = true := by
                     cases hz : anyF (depB PP k) 12
                     · exact absurd (by rw [hinv.1, hz]; rfl) c_170
                     · rfl
                   have hmm : minF (depB PP k) be 100000 12 ≠ 100000 := fun y => c_175 (by rw [hlst]; exact (nvI_m1 hmb).mpr y)
                   have hml : minF (depB PP k) be 100000 12 < 3600 := by unfold bdN at hmb; omega
                   rw [hlst, hday, nvI_lt hmm, ef] at c_182
                   exact po_int h (by
                     unfold bgN
                     rw [if_pos (by rw [← hk0]; exact c165), if_pos hany, hxf]
                     first
                     | (have h3 := (nI_leI (by omega) (by omega)).mp c_182
                        rw [Nat.max_eq_left h3, cutN_lo hf, nvI_lt (by omega), hday, ef])
                     | (have h3 := (nI_ltI (by omega) (by omega)).mp (lt_nle c_182)
                        rw [Nat.max_eq_right (by omega), cutN_lo hml, nvI_lt hmm, hlst, nvI_lt hmm])))
                | (have c165 : w.1 224 k = 4 := by first | exact c_165 | exact Decidable.not_not.mp c_165
                   obtain ⟨hday, hlst⟩ := hinv.2.1 c165
                   have hany : anyF (depB PP k) 12 = false := by
                     cases hz : anyF (depB PP k) 12
                     · rfl
                     · exact absurd (by rw [← c_170, hinv.1, hz]; rfl) (show ¬ ((1 : Int32) = 0) by decide)
                   exact po_int h (by
                     unfold bgN
                     rw [if_pos (by rw [← hk0]; exact c165), if_neg (by rw [hany]; simp), hxf, cutN_lo hf, nvI_lt (by omega), hday, ef]))
                | (obtain ⟨hday, hall⟩ := hinv.2.2 c_165
                   have hmb : maxF (depB PP k) (fun i => en i + 1) (ix (PP k 1)) 12 ≤ 3600 := maxF_le (by omega) (fun j hj hp => by have := hall j hj hp; omega)
                   rw [hday] at c_195
                   have h3 := (nI_ltI (b := 3600) (by omega) (by decide)).mp c_195
                   exact po_int h (by
                     unfold bgN
                     rw [if_neg (by rw [← hk0]; exact c_165), cutN_lo h3, nvI_lt (by omega), hday]))
              · refine a_iconst (-1) hX dX8_beginning_198 (by decide) ?_
                refine a_goto 203 hX dX8_beginning_199 (by decide) ?_
                refine a_iret hX hR dX8_beginning_203 ⟨Nat.le_refl _, Nat.le_refl _⟩ rfl ?_
                first
                | (obtain ⟨hday, hall⟩ := hinv.2.2 c_165
                   have hmb : maxF (depB PP k) (fun i => en i + 1) (ix (PP k 1)) 12 ≤ 3600 := maxF_le (by omega) (fun j hj hp => by have := hall j hj hp; omega)
                   rw [hday] at c_195
                   have h3 : ¬ maxF (depB PP k) (fun i => en i + 1) (ix (PP k 1)) 12 < 3600 := fun y => c_195 (nI_lt y (by decide))
                   exact po_int h (by
                     unfold bgN
                     rw [if_neg (by rw [← hk0]; exact c_165), cutN_hi (by omega)]
                     rfl))
                | (exfalso
                   have c165 : w.1 224 k = 4 := by first | exact c_165 | exact Decidable.not_not.mp c_165
                   obtain ⟨hday, hlst⟩ := hinv.2.1 c165
                   first
                   | (rw [hday, ef] at c_195
                      exact c_195 (nI_lt hf (by decide)))
                   | (have hmb : bdN (minF (depB PP k) be 100000 12) := by
                        have h9 := minF_bd (p := fun i => depB PP k i && decide (i < 12)) (f := be) (fun i hi => by
                          rw [Bool.and_eq_true, decide_eq_true_eq] at hi
                          exact (hbe i hi.2 hi.1).1.2) 12
                        rw [minF_p (q := depB PP k) (fun i hi => by rw [decide_eq_true (show i < 12 by omega), Bool.and_true])] at h9
                        exact h9
                      have hmm : minF (depB PP k) be 100000 12 ≠ 100000 := fun y => c_175 (by rw [hlst]; exact (nvI_m1 hmb).mpr y)
                      have hml : minF (depB PP k) be 100000 12 < 3600 := by unfold bdN at hmb; omega
                      rw [hlst, nvI_lt hmm] at c_195
                      exact c_195 (nI_lt hml (by decide))))
            · refine a_iload_n hX dX8_beginning_173 rfl ?_
              refine a_iconst (-1) hX dX8_beginning_174 (by decide) ?_
              refine a_icmp_ne 180 hX dX8_beginning_175 (by decide) (fun c_175 => ?_) (fun c_175 => ?_)
              · refine a_iload_n hX dX8_beginning_180 rfl ?_
                refine a_iload_n hX dX8_beginning_181 rfl ?_
                refine a_icmp_le 189 hX dX8_beginning_182 (by decide) (fun c_182 => ?_) (fun c_182 => ?_)
                · refine a_iload_n hX dX8_beginning_189 rfl ?_
                  refine a_istore_n (ls' := [_, _, _, _, _, _]) hX dX8_beginning_190 (Nat.le_of_ble_eq_true rfl) rfl ?_
                  refine a_iload_n hX dX8_beginning_191 rfl ?_
                  refine a_sipush (3600) hX dX8_beginning_192 (by decide) ?_
                  refine a_icmp_lt 202 hX dX8_beginning_195 (by decide) (fun c_195 => ?_) (fun c_195 => ?_)
                  · refine a_iload_n hX dX8_beginning_202 rfl ?_
                    refine a_iret hX hR dX8_beginning_203 ⟨Nat.le_refl _, Nat.le_refl _⟩ rfl ?_
                    first
                    | (have c165 : w.1 224 k = 4 := by first | exact c_165 | exact Decidable.not_not.mp c_165
                       obtain ⟨hday, hlst⟩ := hinv.2.1 c165
                       have hmb : bdN (minF (depB PP k) be 100000 12) := by
                         have h9 := minF_bd (p := fun i => depB PP k i && decide (i < 12)) (f := be) (fun i hi => by
                           rw [Bool.and_eq_true, decide_eq_true_eq] at hi
                           exact (hbe i hi.2 hi.1).1.2) 12
                         rw [minF_p (q := depB PP k) (fun i hi => by rw [decide_eq_true (show i < 12 by omega), Bool.and_true])] at h9
                         exact h9
                       have hany : anyF (depB PP k) 12 = true := by
                         cases hz : anyF (depB PP k) 12
                         · exact absurd (by rw [hinv.1, hz]; rfl) c_170
                         · rfl
                       have hmm : minF (depB PP k) be 100000 12 ≠ 100000 := fun y => c_175 (by rw [hlst]; exact (nvI_m1 hmb).mpr y)
                       have hml : minF (depB PP k) be 100000 12 < 3600 := by unfold bdN at hmb; omega
                       rw [hlst, hday, nvI_lt hmm, ef] at c_182
                       exact po_int h (by
                         unfold bgN
                         rw [if_pos (by rw [← hk0]; exact c165), if_pos hany, hxf]
                         first
                         | (have h3 := (nI_leI (by omega) (by omega)).mp c_182
                            rw [Nat.max_eq_left h3, cutN_lo hf, nvI_lt (by omega), hday, ef])
                         | (have h3 := (nI_ltI (by omega) (by omega)).mp (lt_nle c_182)
                            rw [Nat.max_eq_right (by omega), cutN_lo hml, nvI_lt hmm, hlst, nvI_lt hmm])))
                    | (have c165 : w.1 224 k = 4 := by first | exact c_165 | exact Decidable.not_not.mp c_165
                       obtain ⟨hday, hlst⟩ := hinv.2.1 c165
                       have hany : anyF (depB PP k) 12 = false := by
                         cases hz : anyF (depB PP k) 12
                         · rfl
                         · exact absurd (by rw [← c_170, hinv.1, hz]; rfl) (show ¬ ((1 : Int32) = 0) by decide)
                       exact po_int h (by
                         unfold bgN
                         rw [if_pos (by rw [← hk0]; exact c165), if_neg (by rw [hany]; simp), hxf, cutN_lo hf, nvI_lt (by omega), hday, ef]))
                    | (obtain ⟨hday, hall⟩ := hinv.2.2 c_165
                       have hmb : maxF (depB PP k) (fun i => en i + 1) (ix (PP k 1)) 12 ≤ 3600 := maxF_le (by omega) (fun j hj hp => by have := hall j hj hp; omega)
                       rw [hday] at c_195
                       have h3 := (nI_ltI (b := 3600) (by omega) (by decide)).mp c_195
                       exact po_int h (by
                         unfold bgN
                         rw [if_neg (by rw [← hk0]; exact c_165), cutN_lo h3, nvI_lt (by omega), hday]))
                  · refine a_iconst (-1) hX dX8_beginning_198 (by decide) ?_
                    refine a_goto 203 hX dX8_beginning_199 (by decide) ?_
                    refine a_iret hX hR dX8_beginning_203 ⟨Nat.le_refl _, Nat.le_refl _⟩ rfl ?_
                    first
                    | (obtain ⟨hday, hall⟩ := hinv.2.2 c_165
                       have hmb : maxF (depB PP k) (fun i => en i + 1) (ix (PP k 1)) 12 ≤ 3600 := maxF_le (by omega) (fun j hj hp => by have := hall j hj hp; omega)
                       rw [hday] at c_195
                       have h3 : ¬ maxF (depB PP k) (fun i => en i + 1) (ix (PP k 1)) 12 < 3600 := fun y => c_195 (nI_lt y (by decide))
                       exact po_int h (by
                         unfold bgN
                         rw [if_neg (by rw [← hk0]; exact c_165), cutN_hi (by omega)]
                         rfl))
                    | (exfalso
                       have c165 : w.1 224 k = 4 := by first | exact c_165 | exact Decidable.not_not.mp c_165
                       obtain ⟨hday, hlst⟩ := hinv.2.1 c165
                       first
                       | (rw [hday, ef] at c_195
                          exact c_195 (nI_lt hf (by decide)))
                       | (have hmb : bdN (minF (depB PP k) be 100000 12) := by
                            have h9 := minF_bd (p := fun i => depB PP k i && decide (i < 12)) (f := be) (fun i hi => by
                              rw [Bool.and_eq_true, decide_eq_true_eq] at hi
                              exact (hbe i hi.2 hi.1).1.2) 12
                            rw [minF_p (q := depB PP k) (fun i hi => by rw [decide_eq_true (show i < 12 by omega), Bool.and_true])] at h9
                            exact h9
                          have hmm : minF (depB PP k) be 100000 12 ≠ 100000 := fun y => c_175 (by rw [hlst]; exact (nvI_m1 hmb).mpr y)
                          have hml : minF (depB PP k) be 100000 12 < 3600 := by unfold bdN at hmb; omega
                          rw [hlst, nvI_lt hmm] at c_195
                          exact c_195 (nI_lt hml (by decide))))
                · refine a_iload_n hX dX8_beginning_185 rfl ?_
                  refine a_goto 190 hX dX8_beginning_186 (by decide) ?_
                  refine a_istore_n (ls' := [_, _, _, _, _, _]) hX dX8_beginning_190 (Nat.le_of_ble_eq_true rfl) rfl ?_
                  refine a_iload_n hX dX8_beginning_191 rfl ?_
                  refine a_sipush (3600) hX dX8_beginning_192 (by decide) ?_
                  refine a_icmp_lt 202 hX dX8_beginning_195 (by decide) (fun c_195 => ?_) (fun c_195 => ?_)
                  · refine a_iload_n hX dX8_beginning_202 rfl ?_
                    refine a_iret hX hR dX8_beginning_203 ⟨Nat.le_refl _, Nat.le_refl _⟩ rfl ?_
                    first
                    | (have c165 : w.1 224 k = 4 := by first | exact c_165 | exact Decidable.not_not.mp c_165
                       obtain ⟨hday, hlst⟩ := hinv.2.1 c165
                       have hmb : bdN (minF (depB PP k) be 100000 12) := by
                         have h9 := minF_bd (p := fun i => depB PP k i && decide (i < 12)) (f := be) (fun i hi => by
                           rw [Bool.and_eq_true, decide_eq_true_eq] at hi
                           exact (hbe i hi.2 hi.1).1.2) 12
                         rw [minF_p (q := depB PP k) (fun i hi => by rw [decide_eq_true (show i < 12 by omega), Bool.and_true])] at h9
                         exact h9
                       have hany : anyF (depB PP k) 12 = true := by
                         cases hz : anyF (depB PP k) 12
                         · exact absurd (by rw [hinv.1, hz]; rfl) c_170
                         · rfl
                       have hmm : minF (depB PP k) be 100000 12 ≠ 100000 := fun y => c_175 (by rw [hlst]; exact (nvI_m1 hmb).mpr y)
                       have hml : minF (depB PP k) be 100000 12 < 3600 := by unfold bdN at hmb; omega
                       rw [hlst, hday, nvI_lt hmm, ef] at c_182
                       exact po_int h (by
                         unfold bgN
                         rw [if_pos (by rw [← hk0]; exact c165), if_pos hany, hxf]
                         first
                         | (have h3 := (nI_leI (by omega) (by omega)).mp c_182
                            rw [Nat.max_eq_left h3, cutN_lo hf, nvI_lt (by omega), hday, ef])
                         | (have h3 := (nI_ltI (by omega) (by omega)).mp (lt_nle c_182)
                            rw [Nat.max_eq_right (by omega), cutN_lo hml, nvI_lt hmm, hlst, nvI_lt hmm])))
                    | (have c165 : w.1 224 k = 4 := by first | exact c_165 | exact Decidable.not_not.mp c_165
                       obtain ⟨hday, hlst⟩ := hinv.2.1 c165
                       have hany : anyF (depB PP k) 12 = false := by
                         cases hz : anyF (depB PP k) 12
                         · rfl
                         · exact absurd (by rw [← c_170, hinv.1, hz]; rfl) (show ¬ ((1 : Int32) = 0) by decide)
                       exact po_int h (by
                         unfold bgN
                         rw [if_pos (by rw [← hk0]; exact c165), if_neg (by rw [hany]; simp), hxf, cutN_lo hf, nvI_lt (by omega), hday, ef]))
                    | (obtain ⟨hday, hall⟩ := hinv.2.2 c_165
                       have hmb : maxF (depB PP k) (fun i => en i + 1) (ix (PP k 1)) 12 ≤ 3600 := maxF_le (by omega) (fun j hj hp => by have := hall j hj hp; omega)
                       rw [hday] at c_195
                       have h3 := (nI_ltI (b := 3600) (by omega) (by decide)).mp c_195
                       exact po_int h (by
                         unfold bgN
                         rw [if_neg (by rw [← hk0]; exact c_165), cutN_lo h3, nvI_lt (by omega), hday]))
                  · refine a_iconst (-1) hX dX8_beginning_198 (by decide) ?_
                    refine a_goto 203 hX dX8_beginning_199 (by decide) ?_
                    refine a_iret hX hR dX8_beginning_203 ⟨Nat.le_refl _, Nat.le_refl _⟩ rfl ?_
                    first
                    | (obtain ⟨hday, hall⟩ := hinv.2.2 c_165
                       have hmb : maxF (depB PP k) (fun i => en i + 1) (ix (PP k 1)) 12 ≤ 3600 := maxF_le (by omega) (fun j hj hp => by have := hall j hj hp; omega)
                       rw [hday] at c_195
                       have h3 : ¬ maxF (depB PP k) (fun i => en i + 1) (ix (PP k 1)) 12 < 3600 := fun y => c_195 (nI_lt y (by decide))
                       exact po_int h (by
                         unfold bgN
                         rw [if_neg (by rw [← hk0]; exact c_165), cutN_hi (by omega)]
                         rfl))
                    | (exfalso
                       have c165 : w.1 224 k = 4 := by first | exact c_165 | exact Decidable.not_not.mp c_165
                       obtain ⟨hday, hlst⟩ := hinv.2.1 c165
                       first
                       | (rw [hday, ef] at c_195
                          exact c_195 (nI_lt hf (by decide)))
                       | (have hmb : bdN (minF (depB PP k) be 100000 12) := by
                            have h9 := minF_bd (p := fun i => depB PP k i && decide (i < 12)) (f := be) (fun i hi => by
                              rw [Bool.and_eq_true, decide_eq_true_eq] at hi
                              exact (hbe i hi.2 hi.1).1.2) 12
                            rw [minF_p (q := depB PP k) (fun i hi => by rw [decide_eq_true (show i < 12 by omega), Bool.and_true])] at h9
                            exact h9
                          have hmm : minF (depB PP k) be 100000 12 ≠ 100000 := fun y => c_175 (by rw [hlst]; exact (nvI_m1 hmb).mpr y)
                          have hml : minF (depB PP k) be 100000 12 < 3600 := by unfold bdN at hmb; omega
                          rw [hlst, nvI_lt hmm] at c_195
                          exact c_195 (nI_lt hml (by decide))))
              · refine a_iconst (-1) hX dX8_beginning_178 (by decide) ?_
                refine a_iret hX hR dX8_beginning_179 ⟨Nat.le_refl _, Nat.le_refl _⟩ rfl ?_
                have c165 : w.1 224 k = 4 := by first | exact c_165 | exact Decidable.not_not.mp c_165
                obtain ⟨hday, hlst⟩ := hinv.2.1 c165
                have hmb : bdN (minF (depB PP k) be 100000 12) := by
                  have h9 := minF_bd (p := fun i => depB PP k i && decide (i < 12)) (f := be) (fun i hi => by
                    rw [Bool.and_eq_true, decide_eq_true_eq] at hi
                    exact (hbe i hi.2 hi.1).1.2) 12
                  rw [minF_p (q := depB PP k) (fun i hi => by rw [decide_eq_true (show i < 12 by omega), Bool.and_true])] at h9
                  exact h9
                have hany : anyF (depB PP k) 12 = true := by
                  cases hz : anyF (depB PP k) 12
                  · exact absurd (by rw [hinv.1, hz]; rfl) c_170
                  · rfl
                have hmm : minF (depB PP k) be 100000 12 = 100000 := (nvI_m1 hmb).mp (by rw [← hlst]; first | exact c_175 | exact Decidable.not_not.mp c_175)
                exact po_int h (by
                  unfold bgN
                  rw [if_pos (by rw [← hk0]; exact c165), if_pos hany, hmm, cutN_hi (by omega)]
                  rfl)
        · have ho12 : o < 12 := lt_of_c (b := 12) c_36 (by omega) (by omega)
          have hdc := depB_cell hM hk ho12
          refine a_aload_n hX dX8_beginning_39 rfl ?_
          refine gf_X8_32 rfl hX dX8_beginning_40 ?_
          refine a_iload_n hX dX8_beginning_43 rfl ?_
          refine a_iald (k) hX rfl rfl (show _ < 12 by omega) dX8_beginning_44 ?_
          refine a_iload hX dX8_beginning_45 rfl ?_
          refine a_ishr hX dX8_beginning_47 ?_
          refine a_iconst (1) hX dX8_beginning_48 (by decide) ?_
          refine a_iand hX dX8_beginning_49 ?_
          refine a_if_eq 152 hX dX8_beginning_50 (by decide) (fun c_50 => ?_) (fun c_50 => ?_)
          · refine a_iinc (ls' := [_, _, _, _, _, _]) (nI (o + 1)) hX dX8_beginning_152 rfl (nI_i1 o) rfl ?_
            refine a_goto 32 hX dX8_beginning_155 (by decide) ?_
            have hnd : depB PP k o = false := by
              cases hz : depB PP k o
              · rfl
              · have h9 := (hdc.mp hz).1
                rw [(nm_0 (by omega)).mp c_50] at h9
                cases h9
            refine ih (o + 1) dayV leastV anyV (by omega) (by omega) ⟨?_, fun z => ⟨(hinv.2.1 z).1, ?_⟩, fun z => ⟨?_, fun j hj hd => ?_⟩⟩
            · rw [anyF_step, hnd, Bool.or_false]; exact hinv.1
            · show _ = nvI (minF (depB PP k) be 100000 (o + 1))
              rw [minF_s, if_neg (by rw [hnd]; simp)]
              exact (hinv.2.1 z).2
            · show _ = nI (maxF (depB PP k) (fun i => en i + 1) (ix (PP k 1)) (o + 1))
              rw [maxF_s, if_neg (by rw [hnd]; simp)]
              exact (hinv.2.2 z).1
            · rcases Nat.lt_or_ge j o with q | q
              · exact (hinv.2.2 z).2 j q hd
              · have : j = o := by omega
                subst this
                rw [hnd] at hd
                cases hd
          · refine a_aload_n hX dX8_beginning_53 rfl ?_
            refine a_iload hX dX8_beginning_54 rfl ?_
            refine a_callV [_] hX c_X8_isLive mi_X8_isLive mv_X8_isLive se_X8_isLive (klt rfl (by decide)) (adr_lt (kd_lt rfl (by decide))) (cell_8 rfl) rfl li_X8_121 (by decide) rfl rfl (Nat.le_of_ble_eq_true rfl) (fun q => q) dX8_beginning_56 ⟨_, rfl, (by assumption), ?_⟩
            refine a_if_ne_b 65 hX dX8_beginning_59 (by decide) (fun c_59 => ?_) (fun c_59 => ?_)
            · have hyd : depB PP k o = true := hdc.mpr ⟨by
                cases hz : bt (w.1 228 k) o
                · exact absurd ((nm_0 (by omega)).mpr hz) c_50
                · rfl, c_59⟩
              obtain ⟨⟨hb1, hb2⟩, ⟨hb3, hb4⟩⟩ := hbe o ho12 hyd
              refine a_iconst (1) hX dX8_beginning_65 (by decide) ?_
              refine a_istore (ls' := [_, _, _, _, _, _]) hX dX8_beginning_66 (Nat.le_of_ble_eq_true rfl) rfl ?_
              refine a_aload_n hX dX8_beginning_68 rfl ?_
              refine gf_X8_20 rfl hX dX8_beginning_69 ?_
              refine a_iload_n hX dX8_beginning_72 rfl ?_
              refine a_iald (k) hX rfl rfl (show _ < 12 by omega) dX8_beginning_73 ?_
              refine a_iconst (4) hX dX8_beginning_74 (by decide) ?_
              refine a_icmp_ne 116 hX dX8_beginning_75 (by decide) (fun c_75 => ?_) (fun c_75 => ?_)
              · have c75 : w.1 224 k ≠ 4 := by first | exact c_75 | exact fun z => c_75 z
                obtain ⟨hday, hall⟩ := hinv.2.2 c75
                subst hday
                have hmb : maxF (depB PP k) (fun i => en i + 1) (ix (PP k 1)) o ≤ 3600 := maxF_le (by omega) (fun j hj hp => by have := hall j hj hp; omega)
                refine a_aload_n hX dX8_beginning_116 rfl ?_
                refine gf_X8_66 rfl hX dX8_beginning_117 ?_
                refine a_iload hX dX8_beginning_120 rfl ?_
                refine a_iald (o) hX rfl rfl (show _ < 12 by omega) dX8_beginning_122 ?_
                rw [hb3]
                refine a_iconst (-1) hX dX8_beginning_123 (by decide) ?_
                refine a_icmp_ne 129 hX dX8_beginning_124 (by decide) (fun c_124 => ?_) (fun c_124 => ?_)
                · have h1 : en o ≠ 100000 := fun y => (by first | exact c_124 ((nvI_m1 hb4).mpr y) | exact absurd ((nvI_m1 hb4).mpr y) c_124)
                  have h1l : en o < 3600 := by unfold bdN at hb4; omega
                  refine a_aload_n hX dX8_beginning_129 rfl ?_
                  refine gf_X8_66 rfl hX dX8_beginning_130 ?_
                  refine a_iload hX dX8_beginning_133 rfl ?_
                  refine a_iald (o) hX rfl rfl (show _ < 12 by omega) dX8_beginning_135 ?_
                  rw [hb3, nvI_lt h1]
                  refine a_iconst (1) hX dX8_beginning_136 (by decide) ?_
                  refine a_iadd hX dX8_beginning_137 ?_
                  rw [nI_1]
                  refine a_iload_n hX dX8_beginning_138 rfl ?_
                  refine a_icmp_le 152 hX dX8_beginning_139 (by decide) (fun c_139 => ?_) (fun c_139 => ?_)
                  · refine a_iinc (ls' := [_, _, _, _, _, _]) (nI (o + 1)) hX dX8_beginning_152 rfl (nI_i1 o) rfl ?_
                    refine a_goto 32 hX dX8_beginning_155 (by decide) ?_
                    refine ih (o + 1) _ leastV 1 (by omega) (by omega) ⟨?_, fun z => absurd z c75, fun z => ⟨?_, fun j hj hd => ?_⟩⟩
                    · rw [anyF_step, hyd, Bool.or_true]; rfl
                    · show _ = nI (maxF (depB PP k) (fun i => en i + 1) (ix (PP k 1)) (o + 1))
                      rw [maxF_s, if_pos hyd]
                      have h3 := (nI_leI (by omega) (by omega)).mp c_139
                      rw [Nat.max_eq_left h3]
                    · rcases Nat.lt_or_ge j o with q | q
                      · exact (hinv.2.2 z).2 j q hd
                      · have : j = o := by omega
                        subst this
                        omega
                  · refine a_aload_n hX dX8_beginning_142 rfl ?_
                    refine gf_X8_66 rfl hX dX8_beginning_143 ?_
                    refine a_iload hX dX8_beginning_146 rfl ?_
                    refine a_iald (o) hX rfl rfl (show _ < 12 by omega) dX8_beginning_148 ?_
                    rw [hb3, nvI_lt h1]
                    refine a_iconst (1) hX dX8_beginning_149 (by decide) ?_
                    refine a_iadd hX dX8_beginning_150 ?_
                    rw [nI_1]
                    refine a_istore_n (ls' := [_, _, _, _, _, _]) hX dX8_beginning_151 (Nat.le_of_ble_eq_true rfl) rfl ?_
                    refine a_iinc (ls' := [_, _, _, _, _, _]) (nI (o + 1)) hX dX8_beginning_152 rfl (nI_i1 o) rfl ?_
                    refine a_goto 32 hX dX8_beginning_155 (by decide) ?_
                    refine ih (o + 1) (nI (en o + 1)) leastV 1 (by omega) (by omega) ⟨?_, fun z => absurd z c75, fun z => ⟨?_, fun j hj hd => ?_⟩⟩
                    · rw [anyF_step, hyd, Bool.or_true]; rfl
                    · show _ = nI (maxF (depB PP k) (fun i => en i + 1) (ix (PP k 1)) (o + 1))
                      rw [maxF_s, if_pos hyd]
                      have h3 := (nI_ltI (by omega) (by omega)).mp (lt_nle c_139)
                      rw [Nat.max_eq_right (by omega)]
                    · rcases Nat.lt_or_ge j o with q | q
                      · exact (hinv.2.2 z).2 j q hd
                      · have : j = o := by omega
                        subst this
                        omega
                · refine a_iconst (-1) hX dX8_beginning_127 (by decide) ?_
                  refine a_iret hX hR dX8_beginning_128 ⟨Nat.le_refl _, Nat.le_refl _⟩ rfl ?_
                  have h1 : en o = 100000 := (nvI_m1 hb4).mp (by first | exact c_124 | exact Decidable.not_not.mp c_124)
                  have h2 := maxF_ge (p := depB PP k) (f := fun i => en i + 1) (x := ix (PP k 1)) ho12 hyd
                  exact po_int h (by
                    unfold bgN
                    rw [if_neg (by rw [← hk0]; exact c75), cutN_hi (by have : en o + 1 ≤ _ := h2; omega)]
                    rfl)
              · have c75 : w.1 224 k = 4 := by first | exact c_75 | exact Decidable.not_not.mp c_75
                obtain ⟨hday, hlst⟩ := hinv.2.1 c75
                subst hlst
                have hmb : bdN (minF (depB PP k) be 100000 o) := by
                  have h9 := minF_bd (p := fun i => depB PP k i && decide (i < 12)) (f := be) (fun i hi => by
                    rw [Bool.and_eq_true, decide_eq_true_eq] at hi
                    exact (hbe i hi.2 hi.1).1.2) o
                  rw [minF_p (q := depB PP k) (fun i hi => by rw [decide_eq_true (show i < 12 by omega), Bool.and_true])] at h9
                  exact h9
                refine a_aload_n hX dX8_beginning_78 rfl ?_
                refine gf_X8_63 rfl hX dX8_beginning_79 ?_
                refine a_iload hX dX8_beginning_82 rfl ?_
                refine a_iald (o) hX rfl rfl (show _ < 12 by omega) dX8_beginning_84 ?_
                rw [hb1]
                refine a_iconst (-1) hX dX8_beginning_85 (by decide) ?_
                refine a_icmp_eq 152 hX dX8_beginning_86 (by decide) (fun c_86 => ?_) (fun c_86 => ?_)
                · refine a_iinc (ls' := [_, _, _, _, _, _]) (nI (o + 1)) hX dX8_beginning_152 rfl (nI_i1 o) rfl ?_
                  refine a_goto 32 hX dX8_beginning_155 (by decide) ?_
                  refine ih (o + 1) dayV _ 1 (by omega) (by omega) ⟨?_, fun z => ⟨(hinv.2.1 z).1, ?_⟩, fun z => absurd c75 z⟩
                  · rw [anyF_step, hyd, Bool.or_true]; rfl
                  · show _ = nvI (minF (depB PP k) be 100000 (o + 1))
                    rw [minF_s, if_pos hyd]
                    have h1 : be o = 100000 := (nvI_m1 hb2).mp c_86
                    rw [h1, Nat.min_eq_left (by unfold bdN at hmb; omega)]
                · refine a_iload_n hX dX8_beginning_89 rfl ?_
                  refine a_iconst (-1) hX dX8_beginning_90 (by decide) ?_
                  refine a_icmp_eq 105 hX dX8_beginning_91 (by decide) (fun c_91 => ?_) (fun c_91 => ?_)
                  · refine a_aload_n hX dX8_beginning_105 rfl ?_
                    refine gf_X8_63 rfl hX dX8_beginning_106 ?_
                    refine a_iload hX dX8_beginning_109 rfl ?_
                    refine a_iald (o) hX rfl rfl (show _ < 12 by omega) dX8_beginning_111 ?_
                    rw [hb1]
                    refine a_istore_n (ls' := [_, _, _, _, _, _]) hX dX8_beginning_112 (Nat.le_of_ble_eq_true rfl) rfl ?_
                    refine a_goto 152 hX dX8_beginning_113 (by decide) ?_
                    refine a_iinc (ls' := [_, _, _, _, _, _]) (nI (o + 1)) hX dX8_beginning_152 rfl (nI_i1 o) rfl ?_
                    refine a_goto 32 hX dX8_beginning_155 (by decide) ?_
                    refine ih (o + 1) dayV (nvI (be o)) 1 (by omega) (by omega) ⟨?_, fun z => ⟨(hinv.2.1 z).1, ?_⟩, fun z => absurd c75 z⟩
                    · rw [anyF_step, hyd, Bool.or_true]; rfl
                    · show _ = nvI (minF (depB PP k) be 100000 (o + 1))
                      rw [minF_s, if_pos hyd]
                      have h1 : be o ≠ 100000 := fun y => c_86 ((nvI_m1 hb2).mpr y)
                      unfold bdN at hb2 hmb
                      have h3 : be o ≤ minF (depB PP k) be 100000 o := by
                        first
                        | (have h4 : minF (depB PP k) be 100000 o = 100000 := (nvI_m1 hmb).mp c_91
                           omega)
                        | (have h2 : minF (depB PP k) be 100000 o ≠ 100000 := fun y => c_91 ((nvI_m1 hmb).mpr y)
                           rw [nvI_lt h1, nvI_lt h2] at c_102
                           have := (nI_ltI (by omega) (by omega)).mp (lt_nle c_102)
                           omega)
                      rw [Nat.min_eq_right h3]
                  · refine a_aload_n hX dX8_beginning_94 rfl ?_
                    refine gf_X8_63 rfl hX dX8_beginning_95 ?_
                    refine a_iload hX dX8_beginning_98 rfl ?_
                    refine a_iald (o) hX rfl rfl (show _ < 12 by omega) dX8_beginning_100 ?_
                    rw [hb1]
                    refine a_iload_n hX dX8_beginning_101 rfl ?_
                    refine a_icmp_ge 152 hX dX8_beginning_102 (by decide) (fun c_102 => ?_) (fun c_102 => ?_)
                    · refine a_iinc (ls' := [_, _, _, _, _, _]) (nI (o + 1)) hX dX8_beginning_152 rfl (nI_i1 o) rfl ?_
                      refine a_goto 32 hX dX8_beginning_155 (by decide) ?_
                      refine ih (o + 1) dayV _ 1 (by omega) (by omega) ⟨?_, fun z => ⟨(hinv.2.1 z).1, ?_⟩, fun z => absurd c75 z⟩
                      · rw [anyF_step, hyd, Bool.or_true]; rfl
                      · show _ = nvI (minF (depB PP k) be 100000 (o + 1))
                        rw [minF_s, if_pos hyd]
                        have h1 : be o ≠ 100000 := fun y => c_86 ((nvI_m1 hb2).mpr y)
                        have h2 : minF (depB PP k) be 100000 o ≠ 100000 := fun y => c_91 ((nvI_m1 hmb).mpr y)
                        rw [nvI_lt h1, nvI_lt h2] at c_102
                        unfold bdN at hb2 hmb
                        have h3 : minF (depB PP k) be 100000 o ≤ be o := (nI_leI (by omega) (by omega)).mp (by first | exact c_102 | exact Int32.not_lt.mp c_102)
                        rw [Nat.min_eq_left h3]
                    · refine a_aload_n hX dX8_beginning_105 rfl ?_
                      refine gf_X8_63 rfl hX dX8_beginning_106 ?_
                      refine a_iload hX dX8_beginning_109 rfl ?_
                      refine a_iald (o) hX rfl rfl (show _ < 12 by omega) dX8_beginning_111 ?_
                      rw [hb1]
                      refine a_istore_n (ls' := [_, _, _, _, _, _]) hX dX8_beginning_112 (Nat.le_of_ble_eq_true rfl) rfl ?_
                      refine a_goto 152 hX dX8_beginning_113 (by decide) ?_
                      refine a_iinc (ls' := [_, _, _, _, _, _]) (nI (o + 1)) hX dX8_beginning_152 rfl (nI_i1 o) rfl ?_
                      refine a_goto 32 hX dX8_beginning_155 (by decide) ?_
                      refine ih (o + 1) dayV (nvI (be o)) 1 (by omega) (by omega) ⟨?_, fun z => ⟨(hinv.2.1 z).1, ?_⟩, fun z => absurd c75 z⟩
                      · rw [anyF_step, hyd, Bool.or_true]; rfl
                      · show _ = nvI (minF (depB PP k) be 100000 (o + 1))
                        rw [minF_s, if_pos hyd]
                        have h1 : be o ≠ 100000 := fun y => c_86 ((nvI_m1 hb2).mpr y)
                        unfold bdN at hb2 hmb
                        have h3 : be o ≤ minF (depB PP k) be 100000 o := by
                          first
                          | (have h4 : minF (depB PP k) be 100000 o = 100000 := (nvI_m1 hmb).mp c_91
                             omega)
                          | (have h2 : minF (depB PP k) be 100000 o ≠ 100000 := fun y => c_91 ((nvI_m1 hmb).mpr y)
                             rw [nvI_lt h1, nvI_lt h2] at c_102
                             have := (nI_ltI (by omega) (by omega)).mp (lt_nle c_102)
                             omega)
                        rw [Nat.min_eq_right h3]
            · have hnd : depB PP k o = false := by
                cases hz : depB PP k o
                · rfl
                · exact absurd (hdc.mp hz).2 c_59
              refine a_goto 152 hX dX8_beginning_62 (by decide) ?_
              refine a_iinc (ls' := [_, _, _, _, _, _]) (nI (o + 1)) hX dX8_beginning_152 rfl (nI_i1 o) rfl ?_
              refine a_goto 32 hX dX8_beginning_155 (by decide) ?_
              refine ih (o + 1) dayV leastV anyV (by omega) (by omega) ⟨?_, fun z => ⟨(hinv.2.1 z).1, ?_⟩, fun z => ⟨?_, fun j hj hd => ?_⟩⟩
              · rw [anyF_step, hnd, Bool.or_false]; exact hinv.1
              · show _ = nvI (minF (depB PP k) be 100000 (o + 1))
                rw [minF_s, if_neg (by rw [hnd]; simp)]
                exact (hinv.2.1 z).2
              · show _ = nI (maxF (depB PP k) (fun i => en i + 1) (ix (PP k 1)) (o + 1))
                rw [maxF_s, if_neg (by rw [hnd]; simp)]
                exact (hinv.2.2 z).1
              · rcases Nat.lt_or_ge j o with q | q
                · exact (hinv.2.2 z).2 j q hd
                · have : j = o := by omega
                  subst this
                  rw [hnd] at hd
                  cases hd
    rw [hf0]
    exact L32 13 0 _ _ _ (by omega) (by omega) ⟨rfl, fun z => ⟨rfl, rfl⟩, fun z => ⟨by rw [ef]; show nI f = nI (ix (nI f)); rw [ix_nI (by omega)], fun j hj => by omega⟩⟩
  · refine a_aload_n hX dX8_beginning_10 rfl ?_
    refine gf_X8_23 rfl hX dX8_beginning_11 ?_
    refine a_iload_n hX dX8_beginning_14 rfl ?_
    refine a_iald (k) hX rfl rfl (show _ < 12 by omega) dX8_beginning_15 ?_
    refine a_iret hX hR dX8_beginning_16 ⟨Nat.le_refl _, Nat.le_refl _⟩ rfl ?_
    have h2 : PP k 0 = 2 := by rw [← hk0]; exact c_7
    have h4 := (hv k hk).2.2.2.2.2.2.2.2.2 h2
    have hnd : ∀ i, i < 12 → depB PP k i = false := fun i hi => by
      unfold depB
      rw [h4, b_0]
      rfl
    exact po_int h (by
      unfold bgN
      rw [if_neg (by rw [h2]; decide), maxF_none hnd, hxf, cutN_lo hf, nvI_lt (by omega), hf0, ef])
