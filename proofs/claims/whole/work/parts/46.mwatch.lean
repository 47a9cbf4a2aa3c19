/-! the reference: watched -/
abbrev T_X8_watchedNow : Tr := fun lay av w Po => ∃ (S : RS) (P t : Nat) (mst : Int32) (be en : Nat → Nat), av = [.ref (lay 221), .int (nI t)] ∧ (MK w S P mst be en) ∧ (gdS S) ∧ (P < 6) ∧ (t ≤ 1000) ∧ Po (some (.int (dyI (waD S P mst t)))) w
set_option maxRecDepth 100000 in
set_option maxHeartbeats 4000000 in
theorem c_X8_watchedNow : Ct yX8_watchedNow cX8_watchedNow 7 (some .int) 2 0 0 T_X8_watchedNow := by
  refine Ct.mk (by decide +kernel) ?_
  intro X av w Po hX hR hT
  obtain ⟨S, P, t, mst, be, en, rfl, hK, hg, hP, ht, h⟩ := hT
  refine ⟨rfl, ?_⟩
  show A X 0 0 0 [some (.ref (xlay X 221)), some (.int (nI t)), none, none, none, none, none] [] w
  have hv := (hg.1 P hP).1
  refine a_iconst (0) hX dX8_watchedNow_0 (by decide) ?_
  refine a_istore_n (ls' := [_, _, _, _, _, _, _]) hX dX8_watchedNow_1 (Nat.le_of_ble_eq_true rfl) rfl ?_
  refine a_iconst (0) hX dX8_watchedNow_2 (by decide) ?_
  refine a_istore_n (ls' := [_, _, _, _, _, _, _]) hX dX8_watchedNow_3 (Nat.le_of_ble_eq_true rfl) rfl ?_
  have L4 : ∀ (fu1 : Nat) (i : Nat) (a : Int32), 12 - i < fu1 → (i ≤ 12) → (a = if anyF (stB (S.1 P)) i then 1 else 0) → A X 0 0 4 [some (.ref (xlay X 221)), some (.int (nI t)), some (.int a), some (.int (nI i)), none, none, none] [] w := by
    intro fu1
    induction fu1 with
    | zero => intro i a hmu; exact absurd hmu (Nat.not_lt_zero _)
    | succ fu1 ih1 =>
      intro i a hmu1 hi ha
      refine a_iload_n hX dX8_watchedNow_4 rfl ?_
      refine a_bipush (12) hX dX8_watchedNow_5 (by decide) ?_
      refine a_icmp_ge 34 hX dX8_watchedNow_7 (by decide) (fun c_7 => ?_) (fun c_7 => ?_)
      · have hi12 : i = 12 := by
          have := le_of_c (b := 12) c_7 (by omega) (by omega)
          omega
        subst hi12
        refine a_iload_n hX dX8_watchedNow_34 rfl ?_
        refine a_if_ne 40 hX dX8_watchedNow_35 (by decide) (fun c_35 => ?_) (fun c_35 => ?_)
        · refine a_iconst (0) hX dX8_watchedNow_40 (by decide) ?_
          refine a_istore_n (ls' := [_, _, _, _, _, _, _]) hX dX8_watchedNow_41 (Nat.le_of_ble_eq_true rfl) rfl ?_
          have L42 : ∀ (fu2 : Nat) (d : Nat) (y4 y5 y6 : Option Value), 3600 - d < fu2 → (d ≤ 3600) → (∀ x, x < d → ¬ waD S P mst t ≤ x) → A X 0 0 42 [some (.ref (xlay X 221)), some (.int (nI t)), some (.int a), some (.int (nI d)), y4, y5, y6] [] w := by
            intro fu2
            induction fu2 with
            | zero => intro d y4 y5 y6 hmu; exact absurd hmu (Nat.not_lt_zero _)
            | succ fu2 ih2 =>
              intro d y4 y5 y6 hmu2 hd hW
              refine a_iload_n hX dX8_watchedNow_42 rfl ?_
              refine a_sipush (3600) hX dX8_watchedNow_43 (by decide) ?_
              refine a_icmp_ge 179 hX dX8_watchedNow_46 (by decide) (fun c_46 => ?_) (fun c_46 => ?_)
              · refine a_iconst (-1) hX dX8_watchedNow_179 (by decide) ?_
                refine a_iret hX hR dX8_watchedNow_180 ⟨Nat.le_refl _, Nat.le_refl _⟩ rfl ?_
                have hd36 : d = 3600 := by
                  have := le_of_c (b := 3600) c_46 (by omega) (by omega)
                  omega
                subst hd36
                exact po_int h (by
                  unfold dyI
                  rw [if_neg (fun z => hW _ z (Nat.le_refl _))])
              · have hd36 : d < 3600 := lt_of_c (b := 3600) c_46 (by omega) (by omega)
                refine a_iconst (1) hX dX8_watchedNow_49 (by decide) ?_
                refine a_istore (ls' := [_, _, _, _, _, _, _]) hX dX8_watchedNow_50 (Nat.le_of_ble_eq_true rfl) rfl ?_
                refine a_iconst (0) hX dX8_watchedNow_52 (by decide) ?_
                refine a_istore (ls' := [_, _, _, _, _, _, _]) hX dX8_watchedNow_53 (Nat.le_of_ble_eq_true rfl) rfl ?_
                have L55 : ∀ (fu3 : Nat) (i : Nat) (l : Int32) (y6 : Option Value), 12 - i < fu3 → (i ≤ 12) → ((l = if maxF (stB (S.1 P)) (fun i => min (dcN S P mst t i) (eeN S P mst i)) 0 i ≤ d then 1 else 0)) → A X 0 0 55 [some (.ref (xlay X 221)), some (.int (nI t)), some (.int a), some (.int (nI d)), some (.int l), some (.int (nI i)), y6] [] w := by
                  intro fu3
                  induction fu3 with
                  | zero => intro i l y6 hmu; exact absurd hmu (Nat.not_lt_zero _)
                  | succ fu3 ih3 =>
                    intro i l y6 hmu3 hi hl
                    refine a_iload hX dX8_watchedNow_55 rfl ?_
                    refine a_bipush (12) hX dX8_watchedNow_57 (by decide) ?_
                    refine a_icmp_ge 166 hX dX8_watchedNow_59 (by decide) (fun c_59 => ?_) (fun c_59 => ?_)
                    · refine a_iload hX dX8_watchedNow_166 rfl ?_
                      refine a_if_eq 173 hX dX8_watchedNow_168 (by decide) (fun c_168 => ?_) (fun c_168 => ?_)
                      · have hWd : ¬ waD S P mst t ≤ d := by
                          have hl0 : ¬ maxF (stB (S.1 P)) (fun i => min (dcN S P mst t i) (eeN S P mst i)) 0 i ≤ d := fun z => by
                            rw [if_pos z] at hl
                            rw [hl] at c_168
                            exact absurd c_168 (by decide)
                          intro z
                          unfold waD at z
                          exact hl0 (maxF_lei.mpr (fun j hj hp => maxF_lei.mp z j (by omega) hp))
                        refine a_iinc (ls' := [_, _, _, _, _, _, _]) (nI (d + 1)) hX dX8_watchedNow_173 rfl (nI_i1 d) rfl ?_
                        refine a_goto 42 hX dX8_watchedNow_176 (by decide) ?_
                        exact ih2 (d + 1) _ _ _ (by omega) (by omega) (fun x hx => by
                          by_cases e : x = d
                          · rw [e]; exact hWd
                          · exact hW x (by omega))
                      · refine a_iload_n hX dX8_watchedNow_171 rfl ?_
                        refine a_iret hX hR dX8_watchedNow_172 ⟨Nat.le_refl _, Nat.le_refl _⟩ rfl ?_
                        have hWd : waD S P mst t ≤ d := by
                          by_cases hz : maxF (stB (S.1 P)) (fun i => min (dcN S P mst t i) (eeN S P mst i)) 0 i ≤ d
                          · first
                            | (have hi12 : i = 12 := by
                                 have := le_of_c (b := 12) c_59 (by omega) (by omega)
                                 omega
                               subst hi12
                               exact hz)
                            | exact absurd c_64 c_168
                          · rw [if_neg hz] at hl
                            exact absurd hl c_168
                        have hWe : waD S P mst t = d := by
                          rcases Nat.lt_or_ge (waD S P mst t) d with q | q
                          · exact absurd (Nat.le_refl _) (hW _ q)
                          · omega
                        exact po_int h (by
                          unfold dyI
                          rw [hWe, if_pos hd36])
                    · have hi12 : i < 12 := lt_of_c (b := 12) c_59 (by omega) (by omega)
                      have hsc := stB_cell hK.1.1 hi12
                      refine a_iload hX dX8_watchedNow_62 rfl ?_
                      refine a_if_eq 166 hX dX8_watchedNow_64 (by decide) (fun c_64 => ?_) (fun c_64 => ?_)
                      · refine a_iload hX dX8_watchedNow_166 rfl ?_
                        refine a_if_eq 173 hX dX8_watchedNow_168 (by decide) (fun c_168 => ?_) (fun c_168 => ?_)
                        · have hWd : ¬ waD S P mst t ≤ d := by
                            have hl0 : ¬ maxF (stB (S.1 P)) (fun i => min (dcN S P mst t i) (eeN S P mst i)) 0 i ≤ d := fun z => by
                              rw [if_pos z] at hl
                              rw [hl] at c_168
                              exact absurd c_168 (by decide)
                            intro z
                            unfold waD at z
                            exact hl0 (maxF_lei.mpr (fun j hj hp => maxF_lei.mp z j (by omega) hp))
                          refine a_iinc (ls' := [_, _, _, _, _, _, _]) (nI (d + 1)) hX dX8_watchedNow_173 rfl (nI_i1 d) rfl ?_
                          refine a_goto 42 hX dX8_watchedNow_176 (by decide) ?_
                          exact ih2 (d + 1) _ _ _ (by omega) (by omega) (fun x hx => by
                            by_cases e : x = d
                            · rw [e]; exact hWd
                            · exact hW x (by omega))
                        · refine a_iload_n hX dX8_watchedNow_171 rfl ?_
                          refine a_iret hX hR dX8_watchedNow_172 ⟨Nat.le_refl _, Nat.le_refl _⟩ rfl ?_
                          have hWd : waD S P mst t ≤ d := by
                            by_cases hz : maxF (stB (S.1 P)) (fun i => min (dcN S P mst t i) (eeN S P mst i)) 0 i ≤ d
                            · first
                              | (have hi12 : i = 12 := by
                                   have := le_of_c (b := 12) c_59 (by omega) (by omega)
                                   omega
                                 subst hi12
                                 exact hz)
                              | exact absurd c_64 c_168
                            · rw [if_neg hz] at hl
                              exact absurd hl c_168
                          have hWe : waD S P mst t = d := by
                            rcases Nat.lt_or_ge (waD S P mst t) d with q | q
                            · exact absurd (Nat.le_refl _) (hW _ q)
                            · omega
                          exact po_int h (by
                            unfold dyI
                            rw [hWe, if_pos hd36])
                      · have hml : maxF (stB (S.1 P)) (fun i => min (dcN S P mst t i) (eeN S P mst i)) 0 i ≤ d := by
                          by_cases hz : maxF (stB (S.1 P)) (fun i => min (dcN S P mst t i) (eeN S P mst i)) 0 i ≤ d
                          · exact hz
                          · rw [if_neg hz] at hl
                            exact absurd hl c_64
                        refine a_aload_n hX dX8_watchedNow_67 rfl ?_
                        refine a_iload hX dX8_watchedNow_68 rfl ?_
                        refine a_callV [_] hX c_X8_isLive mi_X8_isLive mv_X8_isLive se_X8_isLive (klt rfl (by decide)) (adr_lt (kd_lt rfl (by decide))) (cell_8 rfl) rfl li_X8_121 (by decide) rfl rfl (Nat.le_of_ble_eq_true rfl) (fun q => q) dX8_watchedNow_70 ⟨_, rfl, (by assumption), ?_⟩
                        refine a_if_ne_b 79 hX dX8_watchedNow_73 (by decide) (fun c_73 => ?_) (fun c_73 => ?_)
                        · have hsi := hsc.mp c_73
                          obtain ⟨hw1, hw2, hw3⟩ := wnN_b (t := t) hv hi12 ht
                          obtain ⟨m0, -, -, -, -, -, -, -, m3⟩ := hK.1.1 i hi12
                          have hri : 2 ≤ S.1 P i 0 ∧ S.1 P i 0 ≤ 5 := by
                            have h9 := stB_runs hsi
                            unfold runsB at h9
                            rw [decide_eq_true_eq] at h9
                            exact h9
                          have m3 := m3 hri
                          obtain ⟨-, ⟨ce, cb⟩, cc⟩ := hK.2.2 i hi12 hsi
                          obtain ⟨t1, t2, t3⟩ := sol_tie hg hP hK.2.1 hi12 hsi
                          have hcd : w.1 241 (3600 * i + d) = nI (fb_ct (ctN S P mst i) (d + 1)) := by
                            rw [(cc d hd36).2.1, fb_ct_cong2 (fun x hx => t3 x)]
                          rw [t2] at ce cb
                          have hcle := fb_ct_le (ctN S P mst i) (d + 1)
                          have hdl := dc_le (S := S) (P := P) (mst := mst) (t := t) (i := i) hd36
                          have hstep : maxF (stB (S.1 P)) (fun i => min (dcN S P mst t i) (eeN S P mst i)) 0 (i + 1) ≤ d ↔ (wnN (S.1 P) t i ≤ fb_ct (ctN S P mst i) (d + 1) ∨ eeN S P mst i ≤ d) := by
                            rw [maxF_s, if_pos hsi, Nat.max_le]
                            show (_ ∧ min (dcN S P mst t i) (eeN S P mst i) ≤ d) ↔ _
                            rw [← hdl]
                            omega
                          have J111 : ∀ (wn : Int32), (wn = nI (wnN (S.1 P) t i)) → A X 0 0 111 [some (.ref (xlay X 221)), some (.int (nI t)), some (.int a), some (.int (nI d)), some (.int l), some (.int (nI i)), y6] [.int wn] w := by
                            intro wn hwn
                            refine a_istore (ls' := [_, _, _, _, _, _, _]) hX dX8_watchedNow_111 (Nat.le_of_ble_eq_true rfl) rfl ?_
                            refine a_aload_n hX dX8_watchedNow_113 rfl ?_
                            refine gf_X8_73 rfl hX dX8_watchedNow_114 ?_
                            refine a_sipush (3600) hX dX8_watchedNow_117 (by decide) ?_
                            refine a_iload hX dX8_watchedNow_120 rfl ?_
                            refine a_imul hX dX8_watchedNow_122 ?_
                            refine a_iload_n hX dX8_watchedNow_123 rfl ?_
                            refine a_iadd hX dX8_watchedNow_124 ?_
                            rw [n3600]
                            refine a_iald (3600 * i + d) hX rfl rfl (show _ < 43200 by omega) dX8_watchedNow_125 ?_
                            rw [hcd, hwn]
                            refine a_iload hX dX8_watchedNow_126 rfl ?_
                            refine a_icmp_ge 153 hX dX8_watchedNow_128 (by decide) (fun c_128 => ?_) (fun c_128 => ?_)
                            · refine a_iconst (1) hX dX8_watchedNow_153 (by decide) ?_
                              refine a_goto 158 hX dX8_watchedNow_154 (by decide) ?_
                              refine a_istore (ls' := [_, _, _, _, _, _, _]) hX dX8_watchedNow_158 (Nat.le_of_ble_eq_true rfl) rfl ?_
                              refine a_iinc (ls' := [_, _, _, _, _, _, _]) (nI (i + 1)) hX dX8_watchedNow_160 rfl (nI_i1 i) rfl ?_
                              refine a_goto 55 hX dX8_watchedNow_163 (by decide) ?_
                              exact ih3 (i + 1) 1 _ (by omega) (by omega) (by rw [if_pos (hstep.mpr (Or.inl ((nI_leI (by omega) (by omega)).mp c_128)))])
                            · refine a_aload_n hX dX8_watchedNow_131 rfl ?_
                              refine gf_X8_66 rfl hX dX8_watchedNow_132 ?_
                              refine a_iload hX dX8_watchedNow_135 rfl ?_
                              refine a_iald (i) hX rfl rfl (show _ < 12 by omega) dX8_watchedNow_137 ?_
                              rw [ce]
                              refine a_iconst (-1) hX dX8_watchedNow_138 (by decide) ?_
                              refine a_icmp_eq 157 hX dX8_watchedNow_139 (by decide) (fun c_139 => ?_) (fun c_139 => ?_)
                              · refine a_iconst (0) hX dX8_watchedNow_157 (by decide) ?_
                                refine a_istore (ls' := [_, _, _, _, _, _, _]) hX dX8_watchedNow_158 (Nat.le_of_ble_eq_true rfl) rfl ?_
                                refine a_iinc (ls' := [_, _, _, _, _, _, _]) (nI (i + 1)) hX dX8_watchedNow_160 rfl (nI_i1 i) rfl ?_
                                refine a_goto 55 hX dX8_watchedNow_163 (by decide) ?_
                                have h1 : ¬ wnN (S.1 P) t i ≤ fb_ct (ctN S P mst i) (d + 1) := fun z => c_128 (nI_le z (by omega))
                                have h2 : eeN S P mst i = 100000 := (nvI_m1 cb).mp c_139
                                exact ih3 (i + 1) 0 _ (by omega) (by omega) (by rw [if_neg (fun z => (fun y => by rcases y with y | y; exact h1 y; omega) (hstep.mp z))])
                              · refine a_aload_n hX dX8_watchedNow_142 rfl ?_
                                refine gf_X8_66 rfl hX dX8_watchedNow_143 ?_
                                refine a_iload hX dX8_watchedNow_146 rfl ?_
                                refine a_iald (i) hX rfl rfl (show _ < 12 by omega) dX8_watchedNow_148 ?_
                                rw [ce]
                                refine a_iload_n hX dX8_watchedNow_149 rfl ?_
                                refine a_icmp_gt 157 hX dX8_watchedNow_150 (by decide) (fun c_150 => ?_) (fun c_150 => ?_)
                                · refine a_iconst (0) hX dX8_watchedNow_157 (by decide) ?_
                                  refine a_istore (ls' := [_, _, _, _, _, _, _]) hX dX8_watchedNow_158 (Nat.le_of_ble_eq_true rfl) rfl ?_
                                  refine a_iinc (ls' := [_, _, _, _, _, _, _]) (nI (i + 1)) hX dX8_watchedNow_160 rfl (nI_i1 i) rfl ?_
                                  refine a_goto 55 hX dX8_watchedNow_163 (by decide) ?_
                                  have h1 : ¬ wnN (S.1 P) t i ≤ fb_ct (ctN S P mst i) (d + 1) := fun z => c_128 (nI_le z (by omega))
                                  have h2 : eeN S P mst i ≠ 100000 := fun z => c_139 ((nvI_m1 cb).mpr z)
                                  unfold bdN at cb
                                  rw [nvI_lt h2] at c_150
                                  have h3 := (nI_ltI (by omega) (by omega)).mp c_150
                                  exact ih3 (i + 1) 0 _ (by omega) (by omega) (by rw [if_neg (fun z => (fun y => by rcases y with y | y; exact h1 y; omega) (hstep.mp z))])
                                · refine a_iconst (1) hX dX8_watchedNow_153 (by decide) ?_
                                  refine a_goto 158 hX dX8_watchedNow_154 (by decide) ?_
                                  refine a_istore (ls' := [_, _, _, _, _, _, _]) hX dX8_watchedNow_158 (Nat.le_of_ble_eq_true rfl) rfl ?_
                                  refine a_iinc (ls' := [_, _, _, _, _, _, _]) (nI (i + 1)) hX dX8_watchedNow_160 rfl (nI_i1 i) rfl ?_
                                  refine a_goto 55 hX dX8_watchedNow_163 (by decide) ?_
                                  have h2 : eeN S P mst i ≠ 100000 := fun z => c_139 ((nvI_m1 cb).mpr z)
                                  unfold bdN at cb
                                  rw [nvI_lt h2] at c_150
                                  have h3 := (nI_leI (by omega) (by omega)).mp (le_nlt c_150)
                                  exact ih3 (i + 1) 1 _ (by omega) (by omega) (by rw [if_pos (hstep.mpr (Or.inr h3))])
                          refine a_aload_n hX dX8_watchedNow_79 rfl ?_
                          refine gf_X8_20 rfl hX dX8_watchedNow_80 ?_
                          refine a_iload hX dX8_watchedNow_83 rfl ?_
                          refine a_iald (i) hX rfl rfl (show _ < 12 by omega) dX8_watchedNow_85 ?_
                          refine a_iconst (5) hX dX8_watchedNow_86 (by decide) ?_
                          refine a_icmp_ne 100 hX dX8_watchedNow_87 (by decide) (fun c_87 => ?_) (fun c_87 => ?_)
                          · refine a_aload_n hX dX8_watchedNow_100 rfl ?_
                            refine gf_X8_29 rfl hX dX8_watchedNow_101 ?_
                            refine a_iload hX dX8_watchedNow_104 rfl ?_
                            refine a_iald (i) hX rfl rfl (show _ < 12 by omega) dX8_watchedNow_106 ?_
                            refine a_iload_n hX dX8_watchedNow_107 rfl ?_
                            rw [m3]
                            refine a_callS [_, _] hX c_X8_thousandths mi_X8_thousandths ms_X8_thousandths li_X8_128 (by decide) rfl rfl (Nat.le_of_ble_eq_true rfl) (fun q => q) dX8_watchedNow_108 ⟨_, _, rfl, ?_⟩
                            refine J111 _ ?_
                            exact hw3 (by rw [← m0]; first | exact c_87 | exact fun z => c_87 z)
                          · refine a_aload_n hX dX8_watchedNow_90 rfl ?_
                            refine gf_X8_29 rfl hX dX8_watchedNow_91 ?_
                            refine a_iload hX dX8_watchedNow_94 rfl ?_
                            refine a_iald (i) hX rfl rfl (show _ < 12 by omega) dX8_watchedNow_96 ?_
                            refine a_goto 111 hX dX8_watchedNow_97 (by decide) ?_
                            refine J111 _ ?_
                            rw [m3]
                            exact hw2 (by rw [← m0]; first | exact c_87 | exact Decidable.not_not.mp c_87)
                        · refine a_goto 160 hX dX8_watchedNow_76 (by decide) ?_
                          refine a_iinc (ls' := [_, _, _, _, _, _, _]) (nI (i + 1)) hX dX8_watchedNow_160 rfl (nI_i1 i) rfl ?_
                          refine a_goto 55 hX dX8_watchedNow_163 (by decide) ?_
                          have hns : stB (S.1 P) i = false := by
                            cases hz : stB (S.1 P) i
                            · rfl
                            · exact absurd (hsc.mpr hz) c_73
                          have hme : maxF (stB (S.1 P)) (fun i => min (dcN S P mst t i) (eeN S P mst i)) 0 (i + 1) = maxF (stB (S.1 P)) (fun i => min (dcN S P mst t i) (eeN S P mst i)) 0 i := by
                            rw [maxF_s, if_neg (by rw [hns]; simp)]
                          exact ih3 (i + 1) l _ (by omega) (by omega) (by rw [hme]; exact hl)
                exact L55 13 0 1 _ (by omega) (by omega) (if_pos (Nat.zero_le _)).symm
          exact L42 3601 0 none none none (by omega) (by omega) (fun x hx => by omega)
        · refine a_iconst (0) hX dX8_watchedNow_38 (by decide) ?_
          refine a_iret hX hR dX8_watchedNow_39 ⟨Nat.le_refl _, Nat.le_refl _⟩ rfl ?_
          have hno : ∀ i, i < 12 → stB (S.1 P) i = false := fun i hi => by
            cases hz : stB (S.1 P) i
            · rfl
            · have h9 : anyF (stB (S.1 P)) 12 = true := anyF_iff.mpr ⟨i, hi, hz⟩
              rw [ha, h9] at c_35
              exact absurd c_35 (by decide)
          exact po_int h (by
            unfold waD
            rw [maxF_none hno]
            rfl)
      · have hi12 : i < 12 := lt_of_c (b := 12) c_7 (by omega) (by omega)
        have hsc := stB_cell hK.1.1 hi12
        refine a_iload_n hX dX8_watchedNow_10 rfl ?_
        refine a_if_ne 22 hX dX8_watchedNow_11 (by decide) (fun c_11 => ?_) (fun c_11 => ?_)
        · refine a_iconst (1) hX dX8_watchedNow_22 (by decide) ?_
          refine a_goto 27 hX dX8_watchedNow_23 (by decide) ?_
          refine a_istore_n (ls' := [_, _, _, _, _, _, _]) hX dX8_watchedNow_27 (Nat.le_of_ble_eq_true rfl) rfl ?_
          refine a_iinc (ls' := [_, _, _, _, _, _, _]) (nI (i + 1)) hX dX8_watchedNow_28 rfl (nI_i1 i) rfl ?_
          refine a_goto 4 hX dX8_watchedNow_31 (by decide) ?_
          have hat : anyF (stB (S.1 P)) i = true := by
            cases hz : anyF (stB (S.1 P)) i
            · rw [ha, hz] at c_11
              exact absurd rfl c_11
            · rfl
          exact ih1 (i + 1) 1 (by omega) (by omega) (by rw [anyF_step, hat]; rfl)
        · refine a_aload_n hX dX8_watchedNow_14 rfl ?_
          refine a_iload_n hX dX8_watchedNow_15 rfl ?_
          refine a_callV [_] hX c_X8_isLive mi_X8_isLive mv_X8_isLive se_X8_isLive (klt rfl (by decide)) (adr_lt (kd_lt rfl (by decide))) (cell_8 rfl) rfl li_X8_121 (by decide) rfl rfl (Nat.le_of_ble_eq_true rfl) (fun q => q) dX8_watchedNow_16 ⟨_, rfl, (by assumption), ?_⟩
          refine a_if_eq_b 26 hX dX8_watchedNow_19 (by decide) (fun c_19 => ?_) (fun c_19 => ?_)
          · refine a_iconst (0) hX dX8_watchedNow_26 (by decide) ?_
            refine a_istore_n (ls' := [_, _, _, _, _, _, _]) hX dX8_watchedNow_27 (Nat.le_of_ble_eq_true rfl) rfl ?_
            refine a_iinc (ls' := [_, _, _, _, _, _, _]) (nI (i + 1)) hX dX8_watchedNow_28 rfl (nI_i1 i) rfl ?_
            refine a_goto 4 hX dX8_watchedNow_31 (by decide) ?_
            have hns : stB (S.1 P) i = false := by
              cases hz : stB (S.1 P) i
              · rfl
              · exact absurd (hsc.mpr hz) c_19
            have haf : anyF (stB (S.1 P)) i = false := by
              cases hz : anyF (stB (S.1 P)) i
              · rfl
              · rw [ha, hz] at c_11
                exact absurd c_11 (by decide)
            exact ih1 (i + 1) 0 (by omega) (by omega) (by rw [anyF_step, hns, haf]; rfl)
          · refine a_iconst (1) hX dX8_watchedNow_22 (by decide) ?_
            refine a_goto 27 hX dX8_watchedNow_23 (by decide) ?_
            refine a_istore_n (ls' := [_, _, _, _, _, _, _]) hX dX8_watchedNow_27 (Nat.le_of_ble_eq_true rfl) rfl ?_
            refine a_iinc (ls' := [_, _, _, _, _, _, _]) (nI (i + 1)) hX dX8_watchedNow_28 rfl (nI_i1 i) rfl ?_
            refine a_goto 4 hX dX8_watchedNow_31 (by decide) ?_
            exact ih1 (i + 1) 1 (by omega) (by omega) (by rw [anyF_step, hsc.mp c_19, Bool.or_true]; rfl)
  exact L4 13 0 _ (by omega) (by omega) rfl
