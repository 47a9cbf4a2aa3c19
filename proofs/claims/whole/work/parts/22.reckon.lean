/-! Reckoning.reckon -/
abbrev T_X3_reckon : Tr := fun lay av w Po => ∃ (q : Nat) (mo : Int32), av = [.ref (lay 210), .ref (lay q), .int mo] ∧ (kd q = 1) ∧ (vP (plF w q)) ∧ (hdOK w q) ∧ (acyN (plF w q)) ∧ ∀ (w' : St) (be en : Nat → Nat), Fr w w' (fun z => 210 ≤ z ∧ z ≤ 216) → Sol (plF w q) (heldF w q mo) be en → RkS w' (plF w q) (heldF w q mo) be en → (∀ k, k < 12 → bdN (be k) ∧ bdN (en k)) → (∀ k, k < 12 → stB (plF w q) k = false → be k = 100000 ∧ en k = 100000) → Po none w'
set_option maxRecDepth 100000 in
set_option maxHeartbeats 4000000 in
theorem c_X3_reckon : Ct yX3_reckon cX3_reckon 7 none 5 0 0 T_X3_reckon := by
  refine Ct.mk (by decide +kernel) ?_
  intro X av w Po hX hR hT
  obtain ⟨q, mo, rfl, hq, hv, hok, hac, h⟩ := hT
  refine ⟨rfl, ?_⟩
  show A X 0 0 0 [some (.ref (xlay X 210)), some (.ref (xlay X q)), some (.int mo), none, none, none, none] [] w
  refine a_aload_n hX dX3_reckon_0 rfl ?_
  refine a_iconst (0) hX dX3_reckon_1 (by decide) ?_
  refine pf_X3_34 rfl hX dX3_reckon_2 ?_
  refine a_iconst (0) hX dX3_reckon_5 (by decide) ?_
  refine a_istore_n (ls' := [_, _, _, _, _, _, _]) hX dX3_reckon_6 (Nat.le_of_ble_eq_true rfl) rfl ?_
  have L7 : ∀ (fu1 : Nat) (i : Nat) (w2 : St) (y4 : Option Value), 12 - i < fu1 → (i ≤ 12) → (Fr w w2 (fun z => 210 ≤ z ∧ z ≤ 212)) → (∀ j, j < i → w2.1 211 j = 100000 ∧ w2.1 212 j = 100000) → (∀ x, x < 32 → bt (w2.1 210 6) x = (decide (x < i) && stB (plF w q) x)) → A X 0 0 7 [some (.ref (xlay X 210)), some (.ref (xlay X q)), some (.int mo), some (.int (nI i)), y4, none, none] [] w2 := by
    intro fu1
    induction fu1 with
    | zero => intro i w2 y4 hmu; exact absurd hmu (Nat.not_lt_zero _)
    | succ fu1 ih1 =>
      intro i w2 y4 hmu1 hi hf2 ha hs2
      refine a_iload_n hX dX3_reckon_7 rfl ?_
      refine a_bipush (12) hX dX3_reckon_8 (by decide) ?_
      refine a_icmp_ge 67 hX dX3_reckon_10 (by decide) (fun c_10 => ?_) (fun c_10 => ?_)
      · refine a_aload_n hX dX3_reckon_67 rfl ?_
        refine gf_X3_34 rfl hX dX3_reckon_68 ?_
        refine a_istore_n (ls' := [_, _, _, _, _, _, _]) hX dX3_reckon_71 (Nat.le_of_ble_eq_true rfl) rfl ?_
        refine a_iconst (0) hX dX3_reckon_72 (by decide) ?_
        refine a_istore (ls' := [_, _, _, _, _, _, _]) hX dX3_reckon_73 (Nat.le_of_ble_eq_true rfl) rfl ?_
        have L75 : ∀ (fu2 : Nat) (rd : Nat) (w2 : St) (lf : Int32) (dn : Nat → Bool) (be en : Nat → Nat) (y5 y6 : Option Value), 12 - rd < fu2 → (rd ≤ 12) → (RI w w2 q mo dn be en lf) → (fb_ct (fun x => stB (plF w q) x && !dn x) 12 + rd ≤ 12) → A X 0 0 75 [some (.ref (xlay X 210)), some (.ref (xlay X q)), some (.int mo), some (.int lf), some (.int (nI rd)), y5, y6] [] w2 := by
          intro fu2
          induction fu2 with
          | zero => intro rd w2 lf dn be en y5 y6 hmu; exact absurd hmu (Nat.not_lt_zero _)
          | succ fu2 ih2 =>
            intro rd w2 lf dn be en y5 y6 hmu2 hrd hI hct
            refine a_iload hX dX3_reckon_75 rfl ?_
            refine a_bipush (12) hX dX3_reckon_77 (by decide) ?_
            refine a_icmp_ge 159 hX dX3_reckon_79 (by decide) (fun c_79 => ?_) (fun c_79 => ?_)
            · refine a_vret hX hR dX3_reckon_159 ⟨Nat.le_refl _, Nat.le_refl _⟩ ?_
              have hall : ∀ k, k < 12 → stB (plF w q) k = true → dn k = true := by
                first
                | (have hr9 : rd = 12 := by
                     have := le_of_c (b := 12) c_79 (by omega) (by omega)
                     omega
                   have h0 := fb_ct_zero.mp (show fb_ct (fun x => stB (plF w q) x && !dn x) 12 = 0 by omega)
                   intro k hk hs
                   have := h0 k hk
                   rw [hs] at this
                   simpa using this)
                | (intro k hk hs
                   have := hI.2.2.2.1 k (by omega)
                   rw [c_83, b_0, hs] at this
                   simpa [hk] using this)
              refine h _ be en hI.1 (fun k hk hs => (hI.2.2.2.2.1 k hk (hall k hk hs) hs).1) ⟨fun k hk => ⟨(hI.2.1 k hk).1.1, (hI.2.1 k hk).2.1⟩, fun k hk hs M hM => (hI.2.2.2.2.1 k hk (hall k hk hs) hs).2.2 M hM, hI.2.2.1⟩ (fun k hk => ⟨(hI.2.1 k hk).1.2, (hI.2.1 k hk).2.2⟩) hI.2.2.2.2.2
            · refine a_iload_n hX dX3_reckon_82 rfl ?_
              refine a_if_eq 159 hX dX3_reckon_83 (by decide) (fun c_83 => ?_) (fun c_83 => ?_)
              · refine a_vret hX hR dX3_reckon_159 ⟨Nat.le_refl _, Nat.le_refl _⟩ ?_
                have hall : ∀ k, k < 12 → stB (plF w q) k = true → dn k = true := by
                  first
                  | (have hr9 : rd = 12 := by
                       have := le_of_c (b := 12) c_79 (by omega) (by omega)
                       omega
                     have h0 := fb_ct_zero.mp (show fb_ct (fun x => stB (plF w q) x && !dn x) 12 = 0 by omega)
                     intro k hk hs
                     have := h0 k hk
                     rw [hs] at this
                     simpa using this)
                  | (intro k hk hs
                     have := hI.2.2.2.1 k (by omega)
                     rw [c_83, b_0, hs] at this
                     simpa [hk] using this)
                refine h _ be en hI.1 (fun k hk hs => (hI.2.2.2.2.1 k hk (hall k hk hs) hs).1) ⟨fun k hk => ⟨(hI.2.1 k hk).1.1, (hI.2.1 k hk).2.1⟩, fun k hk hs M hM => (hI.2.2.2.2.1 k hk (hall k hk hs) hs).2.2 M hM, hI.2.2.1⟩ (fun k hk => ⟨(hI.2.1 k hk).1.2, (hI.2.1 k hk).2.2⟩) hI.2.2.2.2.2
              · have hrd12 : rd < 12 := lt_of_c (b := 12) c_79 (by omega) (by omega)
                obtain ⟨k0, hk012, hk0s, hk0n⟩ := hac (fun x => stB (plF w q) x && !dn x) (by
                  by_cases hz : ∃ k, k < 12 ∧ (stB (plF w q) k && !dn k) = true
                  · exact hz
                  · exfalso
                    apply c_83
                    apply b_ext
                    intro x hx
                    rw [hI.2.2.2.1 x hx, b_0]
                    by_cases h12 : x < 12
                    · cases hb : (stB (plF w q) x && !dn x)
                      · simp
                      · exact absurd ⟨x, h12, hb⟩ hz
                    · simp [h12]) (fun k hk hs => stB_runs (by rw [Bool.and_eq_true] at hs; exact hs.1))
                rw [Bool.and_eq_true] at hk0s
                refine a_iconst (0) hX dX3_reckon_86 (by decide) ?_
                refine a_istore (ls' := [_, _, _, _, _, _, _]) hX dX3_reckon_87 (Nat.le_of_ble_eq_true rfl) rfl ?_
                have L89 : ∀ (fu3 : Nat) (i : Nat) (w3 : St) (lf3 : Int32) (dn3 : Nat → Bool) (be3 en3 : Nat → Nat) (y6 : Option Value), 12 - i < fu3 → (i ≤ 12) → (RI w w3 q mo dn3 be3 en3 lf3) → (∀ x, dn x = true → dn3 x = true) → (k0 < i → dn3 k0 = true) → A X 0 0 89 [some (.ref (xlay X 210)), some (.ref (xlay X q)), some (.int mo), some (.int lf3), some (.int (nI rd)), some (.int (nI i)), y6] [] w3 := by
                  intro fu3
                  induction fu3 with
                  | zero => intro i w3 lf3 dn3 be3 en3 y6 hmu; exact absurd hmu (Nat.not_lt_zero _)
                  | succ fu3 ih3 =>
                    intro i w3 lf3 dn3 be3 en3 y6 hmu3 hi hI3 hmo hk0
                    refine a_iload hX dX3_reckon_89 rfl ?_
                    refine a_bipush (12) hX dX3_reckon_91 (by decide) ?_
                    refine a_icmp_ge 153 hX dX3_reckon_93 (by decide) (fun c_93 => ?_) (fun c_93 => ?_)
                    · have hi12 : i = 12 := by
                        have := le_of_c (b := 12) c_93 (by omega) (by omega)
                        omega
                      subst hi12
                      refine a_iinc (ls' := [_, _, _, _, _, _, _]) (nI (rd + 1)) hX dX3_reckon_153 rfl (nI_i1 rd) rfl ?_
                      refine a_goto 75 hX dX3_reckon_156 (by decide) ?_
                      refine ih2 (rd + 1) w3 lf3 dn3 be3 en3 _ _ (by omega) (by omega) hI3 ?_
                      have hk9 := hk0 hk012
                      have h1 : fb_ct (fun x => stB (plF w q) x && !dn3 x) 12 < fb_ct (fun x => stB (plF w q) x && !dn x) 12 := by
                        have h2 := fb_ct_sub (p := fun x => stB (plF w q) x && !dn3 x) (q := fun x => if x = k0 then false else (stB (plF w q) x && !dn x)) (n := 12) (fun x hx h3 => by
                          by_cases e : x = k0
                          · subst e
                            rw [hk9] at h3
                            simp at h3
                          · rw [if_neg e]
                            rw [Bool.and_eq_true] at h3 ⊢
                            refine ⟨h3.1, ?_⟩
                            cases hdx : dn x
                            · rfl
                            · rw [hmo x hdx] at h3
                              exact h3.2)
                        have h4 := fb_ct_upd (fun x => stB (plF w q) x && !dn x) false hk012
                        have h5 : (stB (plF w q) k0 && !dn k0) = true := by rw [hk0s.1, hk0s.2]; rfl
                        rw [h5] at h4
                        simp only [if_true, if_false, Bool.false_eq_true] at h4
                        omega
                      omega
                    · have hi12 : i < 12 := lt_of_c (b := 12) c_93 (by omega) (by omega)
                      have hag : agP (plF w3 q) (plF w q) := plF_ag hI3.1 (fun z hz => hz.1) hq
                      have hlfi : nmP lf3 (nI i) ↔ (stB (plF w q) i && !dn3 i) = true := by
                        rw [nm_bt (by omega), hI3.2.2.2.1 i (by omega)]
                        simp [hi12]
                      refine a_aload_n hX dX3_reckon_96 rfl ?_
                      refine a_iload hX dX3_reckon_97 rfl ?_
                      refine a_callV [_] hX c_X1_at mi_X1_at mv_X1_at se_X1_at (klt hq (by decide)) (adr_lt (kd_lt hq (by decide))) (cell_1 hq) rfl li_X3_43 (by decide) rfl rfl (Nat.le_of_ble_eq_true rfl) (fun q => q) dX3_reckon_99 ⟨_, _, rfl, hq, Or.inl ⟨i, hi12, rfl, ?_⟩⟩
                      refine a_astore (ls' := [_, _, _, _, _, _, _]) hX dX3_reckon_102 (Nat.le_of_ble_eq_true rfl) rfl ?_
                      refine a_aload hX dX3_reckon_104 rfl ?_
                      refine a_ifnull hX dX3_reckon_106 ?_
                      refine a_iload_n hX dX3_reckon_109 rfl ?_
                      refine a_iload hX dX3_reckon_110 rfl ?_
                      refine a_callSN [_, _] hX c_X7_names mi_X7_names ms_X7_names ln_X3_55 (by decide) rfl rfl (Nat.le_of_ble_eq_true rfl) (fun q => q) dX3_reckon_112 ⟨_, _, rfl, ?_⟩
                      refine a_if_eq_b 147 hX dX3_reckon_115 (by decide) (fun c_115 => ?_) (fun c_115 => ?_)
                      · refine a_iinc (ls' := [_, _, _, _, _, _, _]) (nI (i + 1)) hX dX3_reckon_147 rfl (nI_i1 i) rfl ?_
                        refine a_goto 89 hX dX3_reckon_150 (by decide) ?_
                        exact ih3 (i + 1) _ _ dn3 be3 en3 _ (by omega) (by omega) hI3 hmo (fun z => by
                          by_cases e : k0 = i
                          · subst e
                            cases hd : dn3 k0
                            · exact absurd (hlfi.mpr (by rw [hk0s.1, hd]; rfl)) c_115
                            · rfl
                          · exact hk0 (by omega))
                      · have hsd := hlfi.mp c_115
                        rw [Bool.and_eq_true] at hsd
                        have hnd3 : dn3 i = false := by simpa using hsd.2
                        refine a_aload hX dX3_reckon_118 rfl ?_
                        refine gf_X3_59 (K1_p hq hi12) hX dX3_reckon_120 ?_
                        refine a_iload_n hX dX3_reckon_123 rfl ?_
                        refine a_iand hX dX3_reckon_124 ?_
                        refine a_if_ne 147 hX dX3_reckon_125 (by decide) (fun c_125 => ?_) (fun c_125 => ?_)
                        · refine a_iinc (ls' := [_, _, _, _, _, _, _]) (nI (i + 1)) hX dX3_reckon_147 rfl (nI_i1 i) rfl ?_
                          refine a_goto 89 hX dX3_reckon_150 (by decide) ?_
                          exact ih3 (i + 1) _ _ dn3 be3 en3 _ (by omega) (by omega) hI3 hmo (fun z => by
                            by_cases e : k0 = i
                            · subst e
                              exfalso
                              apply c_125
                              apply b_ext
                              intro x hx
                              rw [b_and, b_0, hI3.2.2.2.1 x hx]
                              by_cases h12 : x < 12
                              · cases hb : (stB (plF w q) x && !dn3 x)
                                · simp
                                · have hb2 := hb
                                  rw [Bool.and_eq_true] at hb2
                                  have hdx : dn x = false := by
                                    cases hdx : dn x
                                    · rfl
                                    · have := hmo x hdx
                                      rw [this] at hb2
                                      simp at hb2
                                  have h9 := hk0n x h12 (by rw [hb2.1, hdx]; rfl)
                                  have e9 := hag k0 hk012 4 (by omega)
                                  unfold plF at e9 h9
                                  rw [e9, h9]
                                  simp
                              · simp [h12]
                            · exact hk0 (by omega))
                        · refine a_aload_n hX dX3_reckon_128 rfl ?_
                          refine a_aload_n hX dX3_reckon_129 rfl ?_
                          refine a_aload hX dX3_reckon_130 rfl ?_
                          refine a_iload hX dX3_reckon_132 rfl ?_
                          refine a_iload_n hX dX3_reckon_134 rfl ?_
                          refine a_callV [_, _, _, _] hX c_X3_reckonPlace mi_X3_reckonPlace mv_X3_reckonPlace se_X3_reckonPlace (klt rfl (by decide)) (adr_lt (kd_lt rfl (by decide))) (cell_3 rfl) rfl li_X3_62 (by decide) rfl rfl (Nat.le_of_ble_eq_true rfl) (fun q => q) dX3_reckon_135 ⟨_, _, _, be3, en3, rfl, hq, hi12, (vP_ag hag.symm hv), (fun x hx => by
                            rw [hI3.2.2.1 x hx]
                            by_cases h12 : x < 12
                            · rw [stB_ag hag h12]
                            · simp [h12]), (hdOK_fr hI3.1 (fun z hz => hz.1) hq hok), (by rw [stB_ag hag hi12]; exact hsd.1), (fun x hx _ => hI3.2.1 x hx), ?_⟩
                          intro w135 b135 e135 h135 hb135 he135 h1135 h2135 h4135 h5135
                          refine a_iload_n hX dX3_reckon_138 rfl ?_
                          refine a_iconst (1) hX dX3_reckon_139 (by decide) ?_
                          refine a_iload hX dX3_reckon_140 rfl ?_
                          refine a_ishl hX dX3_reckon_142 ?_
                          refine a_iconst (-1) hX dX3_reckon_143 (by decide) ?_
                          refine a_ixor hX dX3_reckon_144 ?_
                          refine a_iand hX dX3_reckon_145 ?_
                          refine a_istore_n (ls' := [_, _, _, _, _, _, _]) hX dX3_reckon_146 (Nat.le_of_ble_eq_true rfl) rfl ?_
                          refine a_iinc (ls' := [_, _, _, _, _, _, _]) (nI (i + 1)) hX dX3_reckon_147 rfl (nI_i1 i) rfl ?_
                          refine a_goto 89 hX dX3_reckon_150 (by decide) ?_
                          have hrdy : ∀ x, x < 12 → depB (plF w q) i x = true → dn3 x = true := fun x hx hdx => by
                            unfold depB at hdx
                            rw [Bool.and_eq_true] at hdx
                            cases hd : dn3 x
                            · exfalso
                              have h9 : bt (w3.1 (q + 1 + 4 + i) 4 &&& lf3) x = true := by
                                have e9 : w3.1 (q + 1 + 4 + i) 4 = plF w q i 4 := hag i hi12 4 (by omega)
                                rw [b_and, hI3.2.2.2.1 x (by omega), e9, hdx.1, hdx.2, hd]
                                simp [hx]
                              rw [c_125, b_0] at h9
                              cases h9
                            · rfl
                          have hh9 := heldF_fr hI3.1 (fun z hz => hz.1) hq mo
                          rw [hh9] at he135 h5135
                          rw [endC_ag hag hi12] at he135
                          rw [bgN_ag hag hi12] at hb135
                          refine ih3 (i + 1) _ _ _ _ _ _ (by omega) (by omega) (RI_step hI3 hi12 hsd.1 hnd3 hrdy h135 hb135 he135 h1135 h2135 h4135 (fun M hM => ?_)) (fun x hx => ?_) (fun z => ?_)
                          · have h9 := h5135 M hM
                            rw [rawB_ag hag] at h9
                            exact h9
                          · unfold up1b
                            split
                            · rfl
                            · exact hmo x hx
                          · unfold up1b
                            by_cases e : k0 = i
                            · rw [if_pos e]
                            · rw [if_neg e]
                              exact hk0 (by omega)
                exact L89 13 0 w2 lf dn be en y6 (by omega) (by omega) hI (fun x hx => hx) (fun z => by omega)
        have hi12 : i = 12 := by
          have := le_of_c (b := 12) c_10 (by omega) (by omega)
          omega
        subst hi12
        have h100 : (100000 : Int32) = nI 100000 := rfl
        exact L75 13 0 w2 _ (fun _ => false) (fun _ => 100000) (fun _ => 100000) none none (by omega) (by omega) ⟨hf2.mono (fun z hz => by omega), fun k hk => ⟨⟨(ha k hk).1.trans h100, Or.inr rfl⟩, (ha k hk).2.trans h100, Or.inr rfl⟩, hs2, fun x hx => by rw [hs2 x hx]; simp, (fun k hk hd => by cases hd), fun k hk hs => ⟨rfl, rfl⟩⟩ (by rw [Nat.add_zero]; exact fb_ct_le _ 12)
      · have hi12 : i < 12 := lt_of_c (b := 12) c_10 (by omega) (by omega)
        refine a_aload_n hX dX3_reckon_13 rfl ?_
        refine gf_X3_9 rfl hX dX3_reckon_14 ?_
        refine a_iload_n hX dX3_reckon_17 rfl ?_
        refine a_ldc hX dX3_reckon_18 co_X3_42 ?_
        refine a_iast (i) hX rfl rfl (show _ < 12 by omega) dX3_reckon_20 ?_
        refine a_aload_n hX dX3_reckon_21 rfl ?_
        refine gf_X3_15 rfl hX dX3_reckon_22 ?_
        refine a_iload_n hX dX3_reckon_25 rfl ?_
        refine a_ldc hX dX3_reckon_26 co_X3_42 ?_
        refine a_iast (i) hX rfl rfl (show _ < 12 by omega) dX3_reckon_28 ?_
        refine a_aload_n hX dX3_reckon_29 rfl ?_
        refine a_iload_n hX dX3_reckon_30 rfl ?_
        refine a_callV [_] hX c_X1_at mi_X1_at mv_X1_at se_X1_at (klt hq (by decide)) (adr_lt (kd_lt hq (by decide))) (cell_1 hq) rfl li_X3_43 (by decide) rfl rfl (Nat.le_of_ble_eq_true rfl) (fun q => q) dX3_reckon_31 ⟨_, _, rfl, hq, Or.inl ⟨i, hi12, rfl, ?_⟩⟩
        refine a_astore (ls' := [_, _, _, _, _, _, _]) hX dX3_reckon_34 (Nat.le_of_ble_eq_true rfl) rfl ?_
        refine a_aload hX dX3_reckon_36 rfl ?_
        refine a_ifnull hX dX3_reckon_38 ?_
        refine a_aload hX dX3_reckon_41 rfl ?_
        refine a_callV [] hX c_X2_stands mi_X2_stands mv_X2_stands se_X2_stands (klt (K1_p hq hi12) (by decide)) (adr_lt (kd_lt (K1_p hq hi12) (by decide))) (cell_2 (K1_p hq hi12)) rfl li_X3_49 (by decide) rfl rfl (Nat.le_of_ble_eq_true rfl) (fun q => q) dX3_reckon_43 ⟨_, rfl, (K1_p hq hi12), ?_⟩
        refine a_if_eq_b 61 hX dX3_reckon_46 (by decide) (fun c_46 => ?_) (fun c_46 => ?_)
        · refine a_iinc (ls' := [_, _, _, _, _, _, _]) (nI (i + 1)) hX dX3_reckon_61 rfl (nI_i1 i) rfl ?_
          refine a_goto 7 hX dX3_reckon_64 (by decide) ?_
          refine ih1 (i + 1) _ _ (by omega) (by omega) (Fr.set (Fr.set hf2 (by omega)) (by omega)) (fun j hj => ?_) (fun x hx => ?_)
          · simp only [wset_1]
            by_cases e : j = i
            · subst e; simp
            · simp [e]; exact ha j (by omega)
          · rw [wset_ne _ _ _ _ (by decide), wset_ne _ _ _ _ (by decide), hs2 x hx]
            have hsb : stB (plF w q) i = false := by
              unfold stB
              rw [decide_eq_false_iff_not]
              rw [wset_ne _ _ _ _ (by have := kd1_208 hq; omega), wset_ne _ _ _ _ (by have := kd1_208 hq; omega), hf2.2 _ (by have := kd1_208 hq; omega)] at c_46
              exact c_46
            by_cases e : x = i
            · subst e; simp [hsb]
            · rw [show decide (x < i + 1) = decide (x < i) by simp only [decide_eq_decide]; omega]
        · refine a_aload_n hX dX3_reckon_49 rfl ?_
          refine a_dup hX dX3_reckon_50 rfl ?_
          refine gf_X3_34 rfl hX dX3_reckon_51 ?_
          refine a_iconst (1) hX dX3_reckon_54 (by decide) ?_
          refine a_iload_n hX dX3_reckon_55 rfl ?_
          refine a_ishl hX dX3_reckon_56 ?_
          refine a_ior hX dX3_reckon_57 ?_
          refine pf_X3_34 rfl hX dX3_reckon_58 ?_
          refine a_iinc (ls' := [_, _, _, _, _, _, _]) (nI (i + 1)) hX dX3_reckon_61 rfl (nI_i1 i) rfl ?_
          refine a_goto 7 hX dX3_reckon_64 (by decide) ?_
          refine ih1 (i + 1) _ _ (by omega) (by omega) (Fr.set (Fr.set (Fr.set hf2 (by omega)) (by omega)) (by omega)) (fun j hj => ?_) (fun x hx => ?_)
          · simp only [wset_1]
            by_cases e : j = i
            · subst e; simp
            · simp [e]; exact ha j (by omega)
          · rw [wset_row, wset_ne _ _ _ _ (by decide), wset_ne _ _ _ _ (by decide)]
            simp only [upd, if_true]
            have hsb : stB (plF w q) i = true := by
              unfold stB
              rw [decide_eq_true_eq]
              rw [wset_ne _ _ _ _ (by have := kd1_208 hq; omega), wset_ne _ _ _ _ (by have := kd1_208 hq; omega), hf2.2 _ (by have := kd1_208 hq; omega)] at c_46
              exact c_46
            rw [b_or, hs2 x hx, b_shl i (by omega) 1 hx, bt_1]
            by_cases e : x = i
            · subst e; simp [hsb]
            · rw [show decide (x < i + 1) = decide (x < i) by simp only [decide_eq_decide]; omega]
              have : (decide (i ≤ x) && decide (x - i = 0)) = false := by simp; omega
              rw [this, Bool.or_false]
  exact L7 13 0 _ none (by omega) (by omega) (Fr.set Fr.rf (by omega)) (fun j hj => by omega) (fun x hx => by rw [wset_1, if_pos ⟨rfl, rfl⟩, b_0]; simp)
