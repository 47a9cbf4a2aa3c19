/-! Tally.addMonth -/
theorem nI_i1 (k : Nat) : nI k + Int32.ofInt 1 = nI (k + 1) := nI_1 k
theorem lt_of_c {a b : Nat} (h : ¬ nI b ≤ nI a) (ha : a < 2 ^ 31) (hb : b < 2 ^ 31) : a < b := by
  rcases Nat.lt_or_ge a b with hc | hc
  · exact hc
  · exact absurd ((nI_leI hb ha).mpr hc) h
theorem le_of_c {a b : Nat} (h : nI b ≤ nI a) (ha : a < 2 ^ 31) (hb : b < 2 ^ 31) : b ≤ a := (nI_leI hb ha).mp h
def amPost (ev mt gv nd : Nat) (s : Nat × Nat × Nat) (b : Nat → Bool) (f : Nat → Int32) (res : Int32) : Prop :=
  (res = -1 ∧ TF f ev mt gv (runT ev b s 30) ∧ ∀ k, k < 30 → rcN ev mt gv (runT ev b s (k + 1)) < nd) ∨
  (∃ k, k < 30 ∧ res = nI k ∧ TF f ev mt gv (runT ev b s (k + 1)) ∧ nd ≤ rcN ev mt gv (runT ev b s (k + 1)) ∧ ∀ j, j < k → rcN ev mt gv (runT ev b s (j + 1)) < nd)
abbrev T_X6_addMonth : Tr := fun lay av w Po => ∃ (x : Int32) (ev mt gv nd : Nat) (s : Nat × Nat × Nat) (b : Nat → Bool), av = [.ref (lay 216), .int x, .int (nI nd)] ∧ (TF (w.1 216) ev mt gv s) ∧ (BW x b) ∧ (s.1 + 30 ≤ 3600) ∧ (nd < 2 ^ 30) ∧ (rcN ev mt gv s < nd) ∧ ∀ (w' : St) (res : Int32), Fr w w' (fun q => q = 216) → amPost ev mt gv nd s b (w'.1 216) res → Po (some (.int res)) w'
set_option maxRecDepth 100000 in
set_option maxHeartbeats 4000000 in
theorem c_X6_addMonth : Ct yX6_addMonth cX6_addMonth 4 (some .int) 3 0 0 T_X6_addMonth := by
  refine Ct.mk (by decide +kernel) ?_
  intro X av w Po hX hR hT
  obtain ⟨x, ev, mt, gv, nd, s, b, rfl, hT, hx, hc, hn, hr, h⟩ := hT
  refine ⟨rfl, ?_⟩
  show A X 0 0 0 [some (.ref (xlay X 216)), some (.int x), some (.int (nI nd)), none] [] w
  refine a_iload_n hX dX6_addMonth_0 rfl ?_
  refine a_if_ne 10 hX dX6_addMonth_1 (by decide) (fun c_1 => ?_) (fun c_1 => ?_)
  · refine a_iload_n hX dX6_addMonth_10 rfl ?_
    refine a_ldc hX dX6_addMonth_11 co_X6_53 ?_
    refine a_icmp_ne 34 hX dX6_addMonth_13 (by decide) (fun c_13 => ?_) (fun c_13 => ?_)
    · refine a_iconst (0) hX dX6_addMonth_34 (by decide) ?_
      refine a_istore_n (ls' := [_, _, _, _]) hX dX6_addMonth_35 (Nat.le_of_ble_eq_true rfl) rfl ?_
      have L36 : ∀ (fu : Nat) (k : Nat) (w2 : St), 30 - k < fu → (k ≤ 30) → (Fr w w2 (fun q => q = 216)) → (TF (w2.1 216) ev mt gv (runT ev b s k)) → (∀ j, j < k → rcN ev mt gv (runT ev b s (j + 1)) < nd) → A X 0 0 36 [some (.ref (xlay X 216)), some (.int x), some (.int (nI nd)), some (.int (nI k))] [] w2 := by
        intro fu
        induction fu with
        | zero => intro k w2 hmu; exact absurd hmu (Nat.not_lt_zero _)
        | succ fu ih =>
          intro k w2 hmu hk hf2 ht2 hb2
          refine a_iload_n hX dX6_addMonth_36 rfl ?_
          refine a_bipush (30) hX dX6_addMonth_37 (by decide) ?_
          refine a_icmp_ge 79 hX dX6_addMonth_39 (by decide) (fun c_39 => ?_) (fun c_39 => ?_)
          · refine a_iconst (-1) hX dX6_addMonth_79 (by decide) ?_
            refine a_iret hX hR dX6_addMonth_80 ⟨Nat.le_refl _, Nat.le_refl _⟩ rfl ?_
            have hk30 : k = 30 := by
                have := le_of_c (b := 30) c_39 (by omega) (by omega)
                omega
            subst hk30
            exact h _ _ hf2 (Or.inl ⟨rfl, ht2, hb2⟩)
          · have hk30 : k < 30 := lt_of_c (b := 30) c_39 (by omega) (by omega)
            refine a_iload_n hX dX6_addMonth_42 rfl ?_
            refine a_iload_n hX dX6_addMonth_43 rfl ?_
            refine a_ishr hX dX6_addMonth_44 ?_
            refine a_iconst (1) hX dX6_addMonth_45 (by decide) ?_
            refine a_iand hX dX6_addMonth_46 ?_
            refine a_if_ne 57 hX dX6_addMonth_47 (by decide) (fun c_47 => ?_) (fun c_47 => ?_)
            · refine a_aload_n hX dX6_addMonth_57 rfl ?_
              refine a_iconst (1) hX dX6_addMonth_58 (by decide) ?_
              refine a_callV [_] hX c_X6_addDays mi_X6_addDays mv_X6_addDays se_X6_addDays (klt rfl (by decide)) (adr_lt (kd_lt rfl (by decide))) (cell_6 rfl) rfl li_X6_57 (by decide) rfl rfl (Nat.le_of_ble_eq_true rfl) (fun q => q) dX6_addMonth_59 ⟨_, rfl, ?_⟩
              intro w59 h59
              have hF : Fr w w59 (fun q => q = 216) := hf2.tr h59.1
              have hbit : b k = true := by
                  have := fun z => c_47 ((nm_0 (s := x) (j := k) (by omega)).mpr z)
                  rw [hx.at hk30] at this
                  simpa using this
              have hcnt := runT_cnt_le (ev := ev) (is := b) (s0 := s) k
              have hTF : TF (w59.1 216) ev mt gv (runT ev b s (k + 1)) := by
                  rw [runT_succ, hbit, h59.2]
                  exact TF_add ht2 (a := 1) (by omega)
              refine a_aload_n hX dX6_addMonth_62 rfl ?_
              refine a_iconst (0) hX dX6_addMonth_63 (by decide) ?_
              refine a_callV [_] hX c_X6_reachedWith mi_X6_reachedWith mv_X6_reachedWith se_X6_reachedWith (klt rfl (by decide)) (adr_lt (kd_lt rfl (by decide))) (cell_6 rfl) rfl li_X6_54 (by decide) rfl rfl (Nat.le_of_ble_eq_true rfl) (fun q => q) dX6_addMonth_64 ⟨_, rfl, ?_⟩
              have hrcw := rcW_N hTF (a := 0) (by omega)
              rw [Nat.add_zero, Nat.add_zero] at hrcw
              have hb5 := tkN_le ev mt (runT ev b s (k + 1)).2.1 (runT ev b s (k + 1)).2.2
              have hb6 := hTF.2.2.1
              have hb7 := hTF.2.2.2.2.1
              have hcmp : ∀ f : Nat → Int32, rcW f (nI 0) = nI (rcN ev mt gv (runT ev b s (k + 1))) → (rcW f 0 < nI nd ↔ rcN ev mt gv (runT ev b s (k + 1)) < nd) := by
                  intro f hf
                  show rcW f (nI 0) < nI nd ↔ _
                  rw [hf]
                  exact nI_ltI (by unfold rcN; omega) (by omega)
              have hcm := hcmp _ hrcw
              have hge : ¬ _ → nd ≤ rcN ev mt gv (runT ev b s (k + 1)) := fun z => Nat.not_lt.mp (fun q => z (hcm.mpr q))
              refine a_iload_n hX dX6_addMonth_67 rfl ?_
              refine a_icmp_lt 73 hX dX6_addMonth_68 (by decide) (fun c_68 => ?_) (fun c_68 => ?_)
              · have hlt : ∀ j, j < k + 1 → rcN ev mt gv (runT ev b s (j + 1)) < nd := fun j hj => by
                    rcases Nat.lt_or_ge j k with hjk | hjk
                    · exact hb2 j hjk
                    · have : j = k := by omega
                      subst this
                      exact hcm.mp c_68
                refine a_iinc (ls' := [_, _, _, _]) (nI (k + 1)) hX dX6_addMonth_73 rfl (nI_i1 k) rfl ?_
                refine a_goto 36 hX dX6_addMonth_76 (by decide) ?_
                exact ih (k + 1) _ (by omega) (by omega) hF hTF hlt
              · refine a_iload_n hX dX6_addMonth_71 rfl ?_
                refine a_iret hX hR dX6_addMonth_72 ⟨Nat.le_refl _, Nat.le_refl _⟩ rfl ?_
                exact h _ _ hF (Or.inr ⟨k, hk30, rfl, hTF, hge c_68, hb2⟩)
            · refine a_aload_n hX dX6_addMonth_50 rfl ?_
              refine a_callV [] hX c_X6_breakRow mi_X6_breakRow mv_X6_breakRow se_X6_breakRow (klt rfl (by decide)) (adr_lt (kd_lt rfl (by decide))) (cell_6 rfl) rfl li_X6_50 (by decide) rfl rfl (Nat.le_of_ble_eq_true rfl) (fun q => q) dX6_addMonth_51 ⟨rfl, ?_⟩
              intro w51 h51
              have hF : Fr w w51 (fun q => q = 216) := hf2.tr h51.1
              have hbit : b k = false := by
                  have := (nm_0 (s := x) (j := k) (by omega)).mp c_47
                  rwa [hx.at hk30] at this
              have hTF : TF (w51.1 216) ev mt gv (runT ev b s (k + 1)) := by
                  rw [runT_succ, hbit, h51.2]
                  exact TF_br ht2
              refine a_goto 62 hX dX6_addMonth_54 (by decide) ?_
              refine a_aload_n hX dX6_addMonth_62 rfl ?_
              refine a_iconst (0) hX dX6_addMonth_63 (by decide) ?_
              refine a_callV [_] hX c_X6_reachedWith mi_X6_reachedWith mv_X6_reachedWith se_X6_reachedWith (klt rfl (by decide)) (adr_lt (kd_lt rfl (by decide))) (cell_6 rfl) rfl li_X6_54 (by decide) rfl rfl (Nat.le_of_ble_eq_true rfl) (fun q => q) dX6_addMonth_64 ⟨_, rfl, ?_⟩
              have hrcw := rcW_N hTF (a := 0) (by omega)
              rw [Nat.add_zero, Nat.add_zero] at hrcw
              have hb5 := tkN_le ev mt (runT ev b s (k + 1)).2.1 (runT ev b s (k + 1)).2.2
              have hb6 := hTF.2.2.1
              have hb7 := hTF.2.2.2.2.1
              have hcmp : ∀ f : Nat → Int32, rcW f (nI 0) = nI (rcN ev mt gv (runT ev b s (k + 1))) → (rcW f 0 < nI nd ↔ rcN ev mt gv (runT ev b s (k + 1)) < nd) := by
                  intro f hf
                  show rcW f (nI 0) < nI nd ↔ _
                  rw [hf]
                  exact nI_ltI (by unfold rcN; omega) (by omega)
              have hcm := hcmp _ hrcw
              have hge : ¬ _ → nd ≤ rcN ev mt gv (runT ev b s (k + 1)) := fun z => Nat.not_lt.mp (fun q => z (hcm.mpr q))
              refine a_iload_n hX dX6_addMonth_67 rfl ?_
              refine a_icmp_lt 73 hX dX6_addMonth_68 (by decide) (fun c_68 => ?_) (fun c_68 => ?_)
              · have hlt : ∀ j, j < k + 1 → rcN ev mt gv (runT ev b s (j + 1)) < nd := fun j hj => by
                    rcases Nat.lt_or_ge j k with hjk | hjk
                    · exact hb2 j hjk
                    · have : j = k := by omega
                      subst this
                      exact hcm.mp c_68
                refine a_iinc (ls' := [_, _, _, _]) (nI (k + 1)) hX dX6_addMonth_73 rfl (nI_i1 k) rfl ?_
                refine a_goto 36 hX dX6_addMonth_76 (by decide) ?_
                exact ih (k + 1) _ (by omega) (by omega) hF hTF hlt
              · refine a_iload_n hX dX6_addMonth_71 rfl ?_
                refine a_iret hX hR dX6_addMonth_72 ⟨Nat.le_refl _, Nat.le_refl _⟩ rfl ?_
                exact h _ _ hF (Or.inr ⟨k, hk30, rfl, hTF, hge c_68, hb2⟩)
      exact L36 31 0 w (by omega) (by omega) Fr.rf hT (fun j hj => by omega)
    · refine a_aload_n hX dX6_addMonth_16 rfl ?_
      refine a_bipush (30) hX dX6_addMonth_17 (by decide) ?_
      refine a_callV [_] hX c_X6_reachedWith mi_X6_reachedWith mv_X6_reachedWith se_X6_reachedWith (klt rfl (by decide)) (adr_lt (kd_lt rfl (by decide))) (cell_6 rfl) rfl li_X6_54 (by decide) rfl rfl (Nat.le_of_ble_eq_true rfl) (fun q => q) dX6_addMonth_19 ⟨_, rfl, ?_⟩
      refine a_iload_n hX dX6_addMonth_22 rfl ?_
      refine a_icmp_ge 34 hX dX6_addMonth_23 (by decide) (fun c_23 => ?_) (fun c_23 => ?_)
      · refine a_iconst (0) hX dX6_addMonth_34 (by decide) ?_
        refine a_istore_n (ls' := [_, _, _, _]) hX dX6_addMonth_35 (Nat.le_of_ble_eq_true rfl) rfl ?_
        have L36 : ∀ (fu : Nat) (k : Nat) (w2 : St), 30 - k < fu → (k ≤ 30) → (Fr w w2 (fun q => q = 216)) → (TF (w2.1 216) ev mt gv (runT ev b s k)) → (∀ j, j < k → rcN ev mt gv (runT ev b s (j + 1)) < nd) → A X 0 0 36 [some (.ref (xlay X 216)), some (.int x), some (.int (nI nd)), some (.int (nI k))] [] w2 := by
          intro fu
          induction fu with
          | zero => intro k w2 hmu; exact absurd hmu (Nat.not_lt_zero _)
          | succ fu ih =>
            intro k w2 hmu hk hf2 ht2 hb2
            refine a_iload_n hX dX6_addMonth_36 rfl ?_
            refine a_bipush (30) hX dX6_addMonth_37 (by decide) ?_
            refine a_icmp_ge 79 hX dX6_addMonth_39 (by decide) (fun c_39 => ?_) (fun c_39 => ?_)
            · refine a_iconst (-1) hX dX6_addMonth_79 (by decide) ?_
              refine a_iret hX hR dX6_addMonth_80 ⟨Nat.le_refl _, Nat.le_refl _⟩ rfl ?_
              have hk30 : k = 30 := by
                  have := le_of_c (b := 30) c_39 (by omega) (by omega)
                  omega
              subst hk30
              exact h _ _ hf2 (Or.inl ⟨rfl, ht2, hb2⟩)
            · have hk30 : k < 30 := lt_of_c (b := 30) c_39 (by omega) (by omega)
              refine a_iload_n hX dX6_addMonth_42 rfl ?_
              refine a_iload_n hX dX6_addMonth_43 rfl ?_
              refine a_ishr hX dX6_addMonth_44 ?_
              refine a_iconst (1) hX dX6_addMonth_45 (by decide) ?_
              refine a_iand hX dX6_addMonth_46 ?_
              refine a_if_ne 57 hX dX6_addMonth_47 (by decide) (fun c_47 => ?_) (fun c_47 => ?_)
              · refine a_aload_n hX dX6_addMonth_57 rfl ?_
                refine a_iconst (1) hX dX6_addMonth_58 (by decide) ?_
                refine a_callV [_] hX c_X6_addDays mi_X6_addDays mv_X6_addDays se_X6_addDays (klt rfl (by decide)) (adr_lt (kd_lt rfl (by decide))) (cell_6 rfl) rfl li_X6_57 (by decide) rfl rfl (Nat.le_of_ble_eq_true rfl) (fun q => q) dX6_addMonth_59 ⟨_, rfl, ?_⟩
                intro w59 h59
                have hF : Fr w w59 (fun q => q = 216) := hf2.tr h59.1
                have hbit : b k = true := by
                    have := fun z => c_47 ((nm_0 (s := x) (j := k) (by omega)).mpr z)
                    rw [hx.at hk30] at this
                    simpa using this
                have hcnt := runT_cnt_le (ev := ev) (is := b) (s0 := s) k
                have hTF : TF (w59.1 216) ev mt gv (runT ev b s (k + 1)) := by
                    rw [runT_succ, hbit, h59.2]
                    exact TF_add ht2 (a := 1) (by omega)
                refine a_aload_n hX dX6_addMonth_62 rfl ?_
                refine a_iconst (0) hX dX6_addMonth_63 (by decide) ?_
                refine a_callV [_] hX c_X6_reachedWith mi_X6_reachedWith mv_X6_reachedWith se_X6_reachedWith (klt rfl (by decide)) (adr_lt (kd_lt rfl (by decide))) (cell_6 rfl) rfl li_X6_54 (by decide) rfl rfl (Nat.le_of_ble_eq_true rfl) (fun q => q) dX6_addMonth_64 ⟨_, rfl, ?_⟩
                have hrcw := rcW_N hTF (a := 0) (by omega)
                rw [Nat.add_zero, Nat.add_zero] at hrcw
                have hb5 := tkN_le ev mt (runT ev b s (k + 1)).2.1 (runT ev b s (k + 1)).2.2
                have hb6 := hTF.2.2.1
                have hb7 := hTF.2.2.2.2.1
                have hcmp : ∀ f : Nat → Int32, rcW f (nI 0) = nI (rcN ev mt gv (runT ev b s (k + 1))) → (rcW f 0 < nI nd ↔ rcN ev mt gv (runT ev b s (k + 1)) < nd) := by
                    intro f hf
                    show rcW f (nI 0) < nI nd ↔ _
                    rw [hf]
                    exact nI_ltI (by unfold rcN; omega) (by omega)
                have hcm := hcmp _ hrcw
                have hge : ¬ _ → nd ≤ rcN ev mt gv (runT ev b s (k + 1)) := fun z => Nat.not_lt.mp (fun q => z (hcm.mpr q))
                refine a_iload_n hX dX6_addMonth_67 rfl ?_
                refine a_icmp_lt 73 hX dX6_addMonth_68 (by decide) (fun c_68 => ?_) (fun c_68 => ?_)
                · have hlt : ∀ j, j < k + 1 → rcN ev mt gv (runT ev b s (j + 1)) < nd := fun j hj => by
                      rcases Nat.lt_or_ge j k with hjk | hjk
                      · exact hb2 j hjk
                      · have : j = k := by omega
                        subst this
                        exact hcm.mp c_68
                  refine a_iinc (ls' := [_, _, _, _]) (nI (k + 1)) hX dX6_addMonth_73 rfl (nI_i1 k) rfl ?_
                  refine a_goto 36 hX dX6_addMonth_76 (by decide) ?_
                  exact ih (k + 1) _ (by omega) (by omega) hF hTF hlt
                · refine a_iload_n hX dX6_addMonth_71 rfl ?_
                  refine a_iret hX hR dX6_addMonth_72 ⟨Nat.le_refl _, Nat.le_refl _⟩ rfl ?_
                  exact h _ _ hF (Or.inr ⟨k, hk30, rfl, hTF, hge c_68, hb2⟩)
              · refine a_aload_n hX dX6_addMonth_50 rfl ?_
                refine a_callV [] hX c_X6_breakRow mi_X6_breakRow mv_X6_breakRow se_X6_breakRow (klt rfl (by decide)) (adr_lt (kd_lt rfl (by decide))) (cell_6 rfl) rfl li_X6_50 (by decide) rfl rfl (Nat.le_of_ble_eq_true rfl) (fun q => q) dX6_addMonth_51 ⟨rfl, ?_⟩
                intro w51 h51
                have hF : Fr w w51 (fun q => q = 216) := hf2.tr h51.1
                have hbit : b k = false := by
                    have := (nm_0 (s := x) (j := k) (by omega)).mp c_47
                    rwa [hx.at hk30] at this
                have hTF : TF (w51.1 216) ev mt gv (runT ev b s (k + 1)) := by
                    rw [runT_succ, hbit, h51.2]
                    exact TF_br ht2
                refine a_goto 62 hX dX6_addMonth_54 (by decide) ?_
                refine a_aload_n hX dX6_addMonth_62 rfl ?_
                refine a_iconst (0) hX dX6_addMonth_63 (by decide) ?_
                refine a_callV [_] hX c_X6_reachedWith mi_X6_reachedWith mv_X6_reachedWith se_X6_reachedWith (klt rfl (by decide)) (adr_lt (kd_lt rfl (by decide))) (cell_6 rfl) rfl li_X6_54 (by decide) rfl rfl (Nat.le_of_ble_eq_true rfl) (fun q => q) dX6_addMonth_64 ⟨_, rfl, ?_⟩
                have hrcw := rcW_N hTF (a := 0) (by omega)
                rw [Nat.add_zero, Nat.add_zero] at hrcw
                have hb5 := tkN_le ev mt (runT ev b s (k + 1)).2.1 (runT ev b s (k + 1)).2.2
                have hb6 := hTF.2.2.1
                have hb7 := hTF.2.2.2.2.1
                have hcmp : ∀ f : Nat → Int32, rcW f (nI 0) = nI (rcN ev mt gv (runT ev b s (k + 1))) → (rcW f 0 < nI nd ↔ rcN ev mt gv (runT ev b s (k + 1)) < nd) := by
                    intro f hf
                    show rcW f (nI 0) < nI nd ↔ _
                    rw [hf]
                    exact nI_ltI (by unfold rcN; omega) (by omega)
                have hcm := hcmp _ hrcw
                have hge : ¬ _ → nd ≤ rcN ev mt gv (runT ev b s (k + 1)) := fun z => Nat.not_lt.mp (fun q => z (hcm.mpr q))
                refine a_iload_n hX dX6_addMonth_67 rfl ?_
                refine a_icmp_lt 73 hX dX6_addMonth_68 (by decide) (fun c_68 => ?_) (fun c_68 => ?_)
                · have hlt : ∀ j, j < k + 1 → rcN ev mt gv (runT ev b s (j + 1)) < nd := fun j hj => by
                      rcases Nat.lt_or_ge j k with hjk | hjk
                      · exact hb2 j hjk
                      · have : j = k := by omega
                        subst this
                        exact hcm.mp c_68
                  refine a_iinc (ls' := [_, _, _, _]) (nI (k + 1)) hX dX6_addMonth_73 rfl (nI_i1 k) rfl ?_
                  refine a_goto 36 hX dX6_addMonth_76 (by decide) ?_
                  exact ih (k + 1) _ (by omega) (by omega) hF hTF hlt
                · refine a_iload_n hX dX6_addMonth_71 rfl ?_
                  refine a_iret hX hR dX6_addMonth_72 ⟨Nat.le_refl _, Nat.le_refl _⟩ rfl ?_
                  exact h _ _ hF (Or.inr ⟨k, hk30, rfl, hTF, hge c_68, hb2⟩)
        exact L36 31 0 w (by omega) (by omega) Fr.rf hT (fun j hj => by omega)
      · refine a_aload_n hX dX6_addMonth_26 rfl ?_
        refine a_bipush (30) hX dX6_addMonth_27 (by decide) ?_
        refine a_callV [_] hX c_X6_addDays mi_X6_addDays mv_X6_addDays se_X6_addDays (klt rfl (by decide)) (adr_lt (kd_lt rfl (by decide))) (cell_6 rfl) rfl li_X6_57 (by decide) rfl rfl (Nat.le_of_ble_eq_true rfl) (fun q => q) dX6_addMonth_29 ⟨_, rfl, ?_⟩
        intro w29 h29
        refine a_iconst (-1) hX dX6_addMonth_32 (by decide) ?_
        refine a_iret hX hR dX6_addMonth_33 ⟨Nat.le_refl _, Nat.le_refl _⟩ rfl ?_
        have hw := hx.isW.mp c_13
        have hrt := runT_t (ev := ev) (s0 := s) (is := b) 30 hw
        have hlim := rcW_N hT (a := 30) (by omega)
        refine h _ _ h29.1 (Or.inl ⟨rfl, ?_, fun k hk => ?_⟩)
        · rw [hrt, h29.2]
          exact TF_add hT (a := 30) (by omega)
        · refine Nat.lt_of_le_of_lt (rcN_run ev mt gv b s (m := k + 1) (n := 30) (by omega)) ?_
          have hq : ¬ nI nd ≤ rcW (w.1 216) (nI 30) := c_23
          rw [hlim] at hq
          have hb := tkN_le ev mt s.2.1 (s.2.2 + 30)
          have hb2 := hT.2.2.1
          rw [hrt]
          exact lt_of_c hq (by unfold rcN; simp only; omega) (by omega)
  · refine a_aload_n hX dX6_addMonth_4 rfl ?_
    refine a_callV [] hX c_X6_breakRow mi_X6_breakRow mv_X6_breakRow se_X6_breakRow (klt rfl (by decide)) (adr_lt (kd_lt rfl (by decide))) (cell_6 rfl) rfl li_X6_50 (by decide) rfl rfl (Nat.le_of_ble_eq_true rfl) (fun q => q) dX6_addMonth_5 ⟨rfl, ?_⟩
    intro w5 h5
    refine a_iconst (-1) hX dX6_addMonth_8 (by decide) ?_
    refine a_iret hX hR dX6_addMonth_9 ⟨Nat.le_refl _, Nat.le_refl _⟩ rfl ?_
    have hz := hx.is0.mp c_1
    refine h _ _ h5.1 (Or.inl ⟨rfl, ?_, fun k hk => ?_⟩)
    · rw [runT_f 29 (fun k hk => hz k hk), h5.2]
      exact TF_br hT
    · rw [runT_f k (fun j hj => hz j (by omega)), rcN_br]
      exact hr
