/-! the class: by, full, watched, open, over, check, image, take, count -/
theorem whyS_in {g : Sg} {p l d : Int32} (h : whyS g p l d ≠ -1) : (isP g p ∧ isL l) ∧ isD d := by
  by_cases hc : (isP g p ∧ isL l) ∧ isD d
  · exact hc
  · exact absurd (whyS_1 hc) h
theorem ckN_succ (S : RS) (P k d : Nat) (b : Int32) (n : Nat) : ckN S P k d b (n + 1) = if (decide (d + (32 - (n + 1)) < 3600) && ctN S P 0 k (d + (32 - (n + 1)))) ≠ bt b (32 - (n + 1)) then nI (d + (32 - (n + 1))) else ckN S P k d b n := rfl
abbrev T_X7_by : Tr := fun lay av w Po => ∃ (g : Sg) (p l d : Int32), av = [.ref (lay 0), .int p, .int l, .int d] ∧ (CI g w) ∧ (okS g) ∧ ∀ w' : St, CI g w' → FrM w w' → Po (some (.int (byS g p l d))) w'
set_option maxRecDepth 100000 in
set_option maxHeartbeats 4000000 in
theorem c_X7_by : Ct yX7_by cX7_by 7 (some .int) 7 0 0 T_X7_by := by
  refine Ct.mk (by decide +kernel) ?_
  intro X av w Po hX hR hT
  obtain ⟨g, p, l, d, rfl, hC, ho, h⟩ := hT
  refine ⟨rfl, ?_⟩
  show A X 0 0 0 [some (.ref (xlay X 0)), some (.int p), some (.int l), some (.int d), none, none, none] [] w
  refine a_aload_n hX dX7_by_0 rfl ?_
  refine a_iload_n hX dX7_by_1 rfl ?_
  refine a_iload_n hX dX7_by_2 rfl ?_
  refine a_iload_n hX dX7_by_3 rfl ?_
  refine a_callV [_, _, _] hX c_X7_why mi_X7_why mv_X7_why se_X7_why (klt rfl (by decide)) (adr_lt (kd_lt rfl (by decide))) (cell_7 rfl) rfl li_X7_200 (by decide) rfl rfl (Nat.le_of_ble_eq_true rfl) (fun q => q) dX7_by_4 ⟨_, _, _, _, rfl, hC, ho, ?_⟩
  intro w4 hC4 hm4
  refine a_istore (ls' := [_, _, _, _, _, _, _]) hX dX7_by_7 (Nat.le_of_ble_eq_true rfl) rfl ?_
  refine a_aload_n hX dX7_by_9 rfl ?_
  refine a_aload_n hX dX7_by_10 rfl ?_
  refine a_callV [] hX c_X7_known mi_X7_known mv_X7_known se_X7_known (klt rfl (by decide)) (adr_lt (kd_lt rfl (by decide))) (cell_7 rfl) rfl li_X7_169 (by decide) rfl rfl (Nat.le_of_ble_eq_true rfl) (fun q => q) dX7_by_11 ⟨_, rfl, hC4, ho, ?_⟩
  intro w2 r2 hr2 hg2 hC2 hf2
  · have hkr2 := kd_r hr2
    have hm2 := hf2.M (fun z hz => by omega)
    refine a_iload_n hX dX7_by_14 rfl ?_
    refine a_callV [_, _] hX c_X7_fileOf mi_X7_fileOf mv_X7_fileOf se_X7_fileOf (klt rfl (by decide)) (adr_lt (kd_lt rfl (by decide))) (cell_7 rfl) rfl li_X7_112 (by decide) rfl rfl (Nat.le_of_ble_eq_true rfl) (fun q => q) dX7_by_15 ⟨_, (gp g), _, rfl, hkr2, hC2.1.1.2.1, ho.1.2.1, ?_⟩
    refine ⟨fun j15 hj15 hj615 e15 => ?_, fun hn15 => ?_⟩
    · subst e15
      refine a_astore (ls' := [_, _, _, _, _, _, _]) hX dX7_by_18 (Nat.le_of_ble_eq_true rfl) rfl ?_
      refine a_aload hX dX7_by_20 rfl ?_
      refine a_ifnonnull 29 hX dX7_by_22 (by decide) ?_
      refine a_aload hX dX7_by_29 rfl ?_
      refine a_iload_n hX dX7_by_31 rfl ?_
      rcases rng_cs l 12 (by decide) with ⟨i, hi, rfl⟩ | hnl
      · refine a_callV [_] hX c_X1_at mi_X1_at mv_X1_at se_X1_at (klt (K4_f (show kd r2 = 4 by first | rfl | assumption) hj615) (by decide)) (adr_lt (kd_lt (K4_f (show kd r2 = 4 by first | rfl | assumption) hj615) (by decide))) (cell_1 (K4_f (show kd r2 = 4 by first | rfl | assumption) hj615)) rfl li_X7_131 (by decide) rfl rfl (Nat.le_of_ble_eq_true rfl) (fun q => q) dX7_by_32 ⟨_, _, rfl, K4_f hkr2 hj615, Or.inl ⟨i, hi, rfl, ?_⟩⟩
        refine a_astore (ls' := [_, _, _, _, _, _, _]) hX dX7_by_35 (Nat.le_of_ble_eq_true rfl) rfl ?_
        refine a_aload hX dX7_by_37 rfl ?_
        refine a_ifnonnull 44 hX dX7_by_39 (by decide) ?_
        have hF := hg2 j15 hj615
        have hjx : ix (nI j15) = j15 := ix_nI (by omega)
        have hix : ix (nI i) = i := ix_nI (by omega)
        have hvv := (ho.k.1 j15 hj615).1
        refine a_iload hX dX7_by_44 rfl ?_
        rcases whyS_cs g (nI j15) (nI i) d with hwv | hwv | hwv | hwv | hwv | hwv | hwv | hwv | hwv
        · rw [hwv]
          refine a_lookup (off := 34) 80 hX dX7_by_46 (by decide) (by decide) (by decide) ?_
          refine a_aload hX dX7_by_80 rfl ?_
          refine gf_X7_203 (K1_p (K4_f hkr2 hj615) hi) hX dX7_by_82 ?_
          refine a_iret hX hR dX7_by_85 ⟨Nat.le_refl _, Nat.le_refl _⟩ rfl ?_
          exact po_int (h w2 hC2 (hm4.tr hm2)) (by unfold byS; rw [hwv, if_pos rfl]; unfold pl; rw [hjx, hix]; exact (hF.1 i hi 5 (by decide)).symm)
        · rw [hwv]
          refine a_lookup (off := 40) 86 hX dX7_by_46 (by decide) (by decide) (by decide) ?_
          refine a_aload hX dX7_by_86 rfl ?_
          refine a_bipush (6) hX dX7_by_88 (by decide) ?_
          refine a_iload_n hX dX7_by_90 rfl ?_
          refine a_iload_n hX dX7_by_91 rfl ?_
          obtain ⟨x, hx, rfl⟩ := isD_ex (whyS_in (by rw [hwv]; decide)).2
          refine a_callV [_, _, _] hX c_X1_leastOf mi_X1_leastOf mv_X1_leastOf se_X1_leastOf (klt (K4_f (show kd r2 = 4 by first | rfl | assumption) hj615) (by decide)) (adr_lt (kd_lt (K4_f (show kd r2 = 4 by first | rfl | assumption) hj615) (by decide))) (cell_1 (K4_f (show kd r2 = 4 by first | rfl | assumption) hj615)) rfl li_X7_192 (by decide) rfl rfl (Nat.le_of_ble_eq_true rfl) (fun q => q) dX7_by_92 ⟨_, _, _, _, rfl, (K4_f hkr2 hj615), ?_⟩
          intro res92 hl92
          refine a_iret hX hR dX7_by_95 ⟨Nat.le_refl _, Nat.le_refl _⟩ rfl ?_
          exact po_int (h w2 hC2 (hm4.tr hm2)) (by unfold byS; rw [hwv, if_neg (by decide), if_pos rfl, hjx, hix, ix_nI (by omega)]; exact (hsN_lo hF hvv hi hx hl92).symm)
        · rw [hwv]
          refine a_lookup (off := 50) 96 hX dX7_by_46 (by decide) (by decide) (by decide) ?_
          refine a_aload hX dX7_by_96 rfl ?_
          refine a_bipush (7) hX dX7_by_98 (by decide) ?_
          refine a_iload_n hX dX7_by_100 rfl ?_
          refine a_iload_n hX dX7_by_101 rfl ?_
          obtain ⟨x, hx, rfl⟩ := isD_ex (whyS_in (by rw [hwv]; decide)).2
          refine a_callV [_, _, _] hX c_X1_leastOf mi_X1_leastOf mv_X1_leastOf se_X1_leastOf (klt (K4_f (show kd r2 = 4 by first | rfl | assumption) hj615) (by decide)) (adr_lt (kd_lt (K4_f (show kd r2 = 4 by first | rfl | assumption) hj615) (by decide))) (cell_1 (K4_f (show kd r2 = 4 by first | rfl | assumption) hj615)) rfl li_X7_192 (by decide) rfl rfl (Nat.le_of_ble_eq_true rfl) (fun q => q) dX7_by_102 ⟨_, _, _, _, rfl, (K4_f hkr2 hj615), ?_⟩
          intro res102 hl102
          refine a_iret hX hR dX7_by_105 ⟨Nat.le_refl _, Nat.le_refl _⟩ rfl ?_
          exact po_int (h w2 hC2 (hm4.tr hm2)) (by unfold byS; rw [hwv, if_neg (by decide), if_neg (by decide), if_pos rfl, hjx, hix, ix_nI (by omega)]; exact (hsN_lo hF hvv hi hx hl102).symm)
        · rw [hwv]
          refine a_lookup (off := 60) 106 hX dX7_by_46 (by decide) (by decide) (by decide) ?_
          refine a_iconst (-1) hX dX7_by_106 (by decide) ?_
          refine a_iret hX hR dX7_by_107 ⟨Nat.le_refl _, Nat.le_refl _⟩ rfl ?_
          exact po_int (h w2 hC2 (hm4.tr hm2)) (by unfold byS; rw [hwv, if_neg (by decide), if_neg (by decide), if_neg (by decide)])
        · rw [hwv]
          refine a_lookup (off := 60) 106 hX dX7_by_46 (by decide) (by decide) (by decide) ?_
          refine a_iconst (-1) hX dX7_by_106 (by decide) ?_
          refine a_iret hX hR dX7_by_107 ⟨Nat.le_refl _, Nat.le_refl _⟩ rfl ?_
          exact po_int (h w2 hC2 (hm4.tr hm2)) (by unfold byS; rw [hwv, if_neg (by decide), if_neg (by decide), if_neg (by decide)])
        · rw [hwv]
          refine a_lookup (off := 60) 106 hX dX7_by_46 (by decide) (by decide) (by decide) ?_
          refine a_iconst (-1) hX dX7_by_106 (by decide) ?_
          refine a_iret hX hR dX7_by_107 ⟨Nat.le_refl _, Nat.le_refl _⟩ rfl ?_
          exact po_int (h w2 hC2 (hm4.tr hm2)) (by unfold byS; rw [hwv, if_neg (by decide), if_neg (by decide), if_neg (by decide)])
        · rw [hwv]
          refine a_lookup (off := 60) 106 hX dX7_by_46 (by decide) (by decide) (by decide) ?_
          refine a_iconst (-1) hX dX7_by_106 (by decide) ?_
          refine a_iret hX hR dX7_by_107 ⟨Nat.le_refl _, Nat.le_refl _⟩ rfl ?_
          exact po_int (h w2 hC2 (hm4.tr hm2)) (by unfold byS; rw [hwv, if_neg (by decide), if_neg (by decide), if_neg (by decide)])
        · rw [hwv]
          refine a_lookup (off := 60) 106 hX dX7_by_46 (by decide) (by decide) (by decide) ?_
          refine a_iconst (-1) hX dX7_by_106 (by decide) ?_
          refine a_iret hX hR dX7_by_107 ⟨Nat.le_refl _, Nat.le_refl _⟩ rfl ?_
          exact po_int (h w2 hC2 (hm4.tr hm2)) (by unfold byS; rw [hwv, if_neg (by decide), if_neg (by decide), if_neg (by decide)])
        · rw [hwv]
          refine a_lookup (off := 60) 106 hX dX7_by_46 (by decide) (by decide) (by decide) ?_
          refine a_iconst (-1) hX dX7_by_106 (by decide) ?_
          refine a_iret hX hR dX7_by_107 ⟨Nat.le_refl _, Nat.le_refl _⟩ rfl ?_
          exact po_int (h w2 hC2 (hm4.tr hm2)) (by unfold byS; rw [hwv, if_neg (by decide), if_neg (by decide), if_neg (by decide)])
      · refine a_callV [_] hX c_X1_at mi_X1_at mv_X1_at se_X1_at (klt (K4_f (show kd r2 = 4 by first | rfl | assumption) hj615) (by decide)) (adr_lt (kd_lt (K4_f (show kd r2 = 4 by first | rfl | assumption) hj615) (by decide))) (cell_1 (K4_f (show kd r2 = 4 by first | rfl | assumption) hj615)) rfl li_X7_131 (by decide) rfl rfl (Nat.le_of_ble_eq_true rfl) (fun q => q) dX7_by_32 ⟨_, _, rfl, K4_f hkr2 hj615, Or.inr ⟨hnl, ?_⟩⟩
        refine a_astoreN (ls' := [_, _, _, _, _, _, _]) hX dX7_by_35 (Nat.le_of_ble_eq_true rfl) rfl ?_
        refine a_aloadN hX dX7_by_37 rfl ?_
        refine a_ifnonnullN hX dX7_by_39 ?_
        refine a_iconst (-1) hX dX7_by_42 (by decide) ?_
        refine a_iret hX hR dX7_by_43 ⟨Nat.le_refl _, Nat.le_refl _⟩ rfl ?_
        first
        | exact po_int (h w2 hC2 (hm4.tr hm2)) (show byS g _ l d = _ by unfold byS; rw [show whyS g (nI j15) l d = -1 from whyS_1 (fun z => hnl z.1.2), if_neg (by decide), if_neg (by decide), if_neg (by decide)])
        | exact po_int (h w2 hC2 (hm4.tr hm2)) (show byS g p l d = _ by unfold byS; rw [whyS_1 (fun z => hn15 z.1.1), if_neg (by decide), if_neg (by decide), if_neg (by decide)])
    · refine a_astoreN (ls' := [_, _, _, _, _, _, _]) hX dX7_by_18 (Nat.le_of_ble_eq_true rfl) rfl ?_
      refine a_aloadN hX dX7_by_20 rfl ?_
      refine a_ifnonnullN hX dX7_by_22 ?_
      refine a_null hX dX7_by_25 ?_
      refine a_goto 35 hX dX7_by_26 (by decide) ?_
      refine a_astoreN (ls' := [_, _, _, _, _, _, _]) hX dX7_by_35 (Nat.le_of_ble_eq_true rfl) rfl ?_
      refine a_aloadN hX dX7_by_37 rfl ?_
      refine a_ifnonnullN hX dX7_by_39 ?_
      refine a_iconst (-1) hX dX7_by_42 (by decide) ?_
      refine a_iret hX hR dX7_by_43 ⟨Nat.le_refl _, Nat.le_refl _⟩ rfl ?_
      first
      | exact po_int (h w2 hC2 (hm4.tr hm2)) (show byS g _ l d = _ by unfold byS; rw [show whyS g (nI j15) l d = -1 from whyS_1 (fun z => hnl z.1.2), if_neg (by decide), if_neg (by decide), if_neg (by decide)])
      | exact po_int (h w2 hC2 (hm4.tr hm2)) (show byS g p l d = _ by unfold byS; rw [whyS_1 (fun z => hn15 z.1.1), if_neg (by decide), if_neg (by decide), if_neg (by decide)])
abbrev T_X7_full : Tr := fun lay av w Po => ∃ (g : Sg) (p m : Int32), av = [.ref (lay 0), .int p, .int m] ∧ (CI g w) ∧ (okS g) ∧ ∀ w' : St, CI g w' → FrM w w' → Po (some (.int (fullS g p m))) w'
set_option maxRecDepth 100000 in
set_option maxHeartbeats 4000000 in
theorem c_X7_full : Ct yX7_full cX7_full 5 (some .int) 6 0 0 T_X7_full := by
  refine Ct.mk (by decide +kernel) ?_
  intro X av w Po hX hR hT
  obtain ⟨g, p, m, rfl, hC, ho, h⟩ := hT
  refine ⟨rfl, ?_⟩
  show A X 0 0 0 [some (.ref (xlay X 0)), some (.int p), some (.int m), none, none] [] w
  refine a_aload_n hX dX7_full_0 rfl ?_
  refine a_aload_n hX dX7_full_1 rfl ?_
  refine a_callV [] hX c_X7_known mi_X7_known mv_X7_known se_X7_known (klt rfl (by decide)) (adr_lt (kd_lt rfl (by decide))) (cell_7 rfl) rfl li_X7_169 (by decide) rfl rfl (Nat.le_of_ble_eq_true rfl) (fun q => q) dX7_full_2 ⟨_, rfl, (by assumption), (by assumption), ?_⟩
  intro w2 r2 hr2 hg2 hC2 hf2
  · have hkr2 := kd_r hr2
    have hm2 := hf2.M (fun z hz => by omega)
    refine a_iload_n hX dX7_full_5 rfl ?_
    refine a_callV [_, _] hX c_X7_fileOf mi_X7_fileOf mv_X7_fileOf se_X7_fileOf (klt rfl (by decide)) (adr_lt (kd_lt rfl (by decide))) (cell_7 rfl) rfl li_X7_112 (by decide) rfl rfl (Nat.le_of_ble_eq_true rfl) (fun q => q) dX7_full_6 ⟨_, (gp g), _, rfl, hkr2, hC2.1.1.2.1, ho.1.2.1, ?_⟩
    refine ⟨fun j6 hj6 hj66 e6 => ?_, fun hn6 => ?_⟩
    · subst e6
      refine a_astore_n (ls' := [_, _, _, _, _]) hX dX7_full_9 (Nat.le_of_ble_eq_true rfl) rfl ?_
      refine a_aload_n hX dX7_full_10 rfl ?_
      refine a_ifnonnull 16 hX dX7_full_11 (by decide) ?_
      have hF := hg2 j6 hj66
      have hjx : ix (nI j6) = j6 := ix_nI (by omega)
      have hip := isP_nI ho.1.2.1 hj6
      refine a_aload_n hX dX7_full_16 rfl ?_
      refine gf_X7_41 rfl hX dX7_full_17 ?_
      refine a_aload_n hX dX7_full_20 rfl ?_
      refine a_iload_n hX dX7_full_21 rfl ?_
      refine a_callV [_, _] hX c_X3_reckon mi_X3_reckon mv_X3_reckon se_X3_reckon (klt rfl (by decide)) (adr_lt (kd_lt rfl (by decide))) (cell_3 rfl) rfl li_X7_135 (by decide) rfl rfl (Nat.le_of_ble_eq_true rfl) (fun q => q) dX7_full_22 ⟨_, _, rfl, (K4_f hkr2 hj66), (hF.pre ho.k hj66).1, (hF.pre ho.k hj66).2.1, (hF.pre ho.k hj66).2.2, ?_⟩
      intro w22 be en hf22 hs22 hr22 hb22 _
      have hk := RkT.mk2 (K4_f hkr2 hj66) hF ho.k hj66 hf22 hs22 hr22 hb22
      have hC22 := hC2.fr hf22 (fun z hz => by omega)
      have hm22 : FrM w w22 := hm2.tr (hf22.M (fun z hz => by omega))
      refine a_aload_n hX dX7_full_25 rfl ?_
      refine gf_X7_41 rfl hX dX7_full_26 ?_
      refine a_callV [] hX c_X3_fullDay mi_X3_fullDay mv_X3_fullDay se_X3_fullDay (klt rfl (by decide)) (adr_lt (kd_lt rfl (by decide))) (cell_3 rfl) rfl li_X7_150 (by decide) rfl rfl (Nat.le_of_ble_eq_true rfl) (fun q => q) dX7_full_29 ⟨_, _, _, _, rfl, hk.2.2.1, hk.2.2.2.1, ?_⟩
      rw [hk.fu ho.k hj66]
      have hfb := fuD_b (RSk g) j6 m
      have hfd : (if fuN (RSk g) j6 m ≤ 3600 then fuN (RSk g) j6 m else 100000) = fuD (RSk g) j6 m := rfl
      rw [hfd]
      have hcc := nvI_if _ hfb
      refine a_istore (ls' := [_, _, _, _, _]) hX dX7_full_32 (Nat.le_of_ble_eq_true rfl) rfl ?_
      refine a_iload hX dX7_full_34 rfl ?_
      refine a_ldc hX dX7_full_36 co_X7_157 ?_
      refine a_icmp_ne 45 hX dX7_full_38 (by decide) (fun c_38 => ?_) (fun c_38 => ?_)
      · refine a_iload hX dX7_full_45 rfl ?_
        refine a_iret hX hR dX7_full_47 ⟨Nat.le_refl _, Nat.le_refl _⟩ rfl ?_
        exact po_int (h w22 hC22 hm22) (by unfold fullS nvI; rw [if_pos hip, hjx]; first | rw [if_pos (hcc.mp c_38)] | rw [if_neg (fun z => c_38 (hcc.mpr z))])
      · refine a_iconst (-1) hX dX7_full_41 (by decide) ?_
        refine a_goto 47 hX dX7_full_42 (by decide) ?_
        refine a_iret hX hR dX7_full_47 ⟨Nat.le_refl _, Nat.le_refl _⟩ rfl ?_
        exact po_int (h w22 hC22 hm22) (by unfold fullS nvI; rw [if_pos hip, hjx]; first | rw [if_pos (hcc.mp c_38)] | rw [if_neg (fun z => c_38 (hcc.mpr z))])
    · refine a_astore_nN (ls' := [_, _, _, _, _]) hX dX7_full_9 (Nat.le_of_ble_eq_true rfl) rfl ?_
      refine a_aload_nN hX dX7_full_10 rfl ?_
      refine a_ifnonnullN hX dX7_full_11 ?_
      refine a_iconst (-1) hX dX7_full_14 (by decide) ?_
      refine a_iret hX hR dX7_full_15 ⟨Nat.le_refl _, Nat.le_refl _⟩ rfl ?_
      exact po_int (h w2 hC2 hm2) (by unfold fullS; rw [if_neg hn6])
abbrev T_X7_watched : Tr := fun lay av w Po => ∃ (g : Sg) (p t m : Int32), av = [.ref (lay 0), .int p, .int t, .int m] ∧ (CI g w) ∧ (okS g) ∧ ∀ w' : St, CI g w' → FrM w w' → Po (some (.int (watchedS g p t m))) w'
set_option maxRecDepth 100000 in
set_option maxHeartbeats 4000000 in
theorem c_X7_watched : Ct yX7_watched cX7_watched 5 (some .int) 6 0 0 T_X7_watched := by
  refine Ct.mk (by decide +kernel) ?_
  intro X av w Po hX hR hT
  obtain ⟨g, p, t, m, rfl, hC, ho, h⟩ := hT
  refine ⟨rfl, ?_⟩
  show A X 0 0 0 [some (.ref (xlay X 0)), some (.int p), some (.int t), some (.int m), none] [] w
  refine a_aload_n hX dX7_watched_0 rfl ?_
  refine a_aload_n hX dX7_watched_1 rfl ?_
  refine a_callV [] hX c_X7_known mi_X7_known mv_X7_known se_X7_known (klt rfl (by decide)) (adr_lt (kd_lt rfl (by decide))) (cell_7 rfl) rfl li_X7_169 (by decide) rfl rfl (Nat.le_of_ble_eq_true rfl) (fun q => q) dX7_watched_2 ⟨_, rfl, (by assumption), (by assumption), ?_⟩
  intro w2 r2 hr2 hg2 hC2 hf2
  · have hkr2 := kd_r hr2
    have hm2 := hf2.M (fun z hz => by omega)
    refine a_iload_n hX dX7_watched_5 rfl ?_
    refine a_callV [_, _] hX c_X7_fileOf mi_X7_fileOf mv_X7_fileOf se_X7_fileOf (klt rfl (by decide)) (adr_lt (kd_lt rfl (by decide))) (cell_7 rfl) rfl li_X7_112 (by decide) rfl rfl (Nat.le_of_ble_eq_true rfl) (fun q => q) dX7_watched_6 ⟨_, (gp g), _, rfl, hkr2, hC2.1.1.2.1, ho.1.2.1, ?_⟩
    refine ⟨fun j6 hj6 hj66 e6 => ?_, fun hn6 => ?_⟩
    · subst e6
      refine a_astore (ls' := [_, _, _, _, _]) hX dX7_watched_9 (Nat.le_of_ble_eq_true rfl) rfl ?_
      refine a_aload hX dX7_watched_11 rfl ?_
      refine a_ifnull hX dX7_watched_13 ?_
      refine a_iload_n hX dX7_watched_16 rfl ?_
      refine a_if_lt 27 hX dX7_watched_17 (by decide) (fun c_17 => ?_) (fun c_17 => ?_)
      · refine a_iconst (-1) hX dX7_watched_27 (by decide) ?_
        refine a_iret hX hR dX7_watched_28 ⟨Nat.le_refl _, Nat.le_refl _⟩ rfl ?_
        first | exact po_int (h w2 hC2 hm2) (by unfold watchedS; rw [if_neg (fun z => hn6 z.1)]) | exact po_int (h w2 hC2 hm2) (by unfold watchedS; rw [if_neg (fun z => by grind)])
      · refine a_iload_n hX dX7_watched_20 rfl ?_
        refine a_sipush (1000) hX dX7_watched_21 (by decide) ?_
        refine a_icmp_le 29 hX dX7_watched_24 (by decide) (fun c_24 => ?_) (fun c_24 => ?_)
        · have hF := hg2 j6 hj66
          have hjx : ix (nI j6) = j6 := ix_nI (by omega)
          have hip := isP_nI ho.1.2.1 hj6
          have htt : 0 ≤ t ∧ t ≤ 1000 := ⟨by grind, by grind⟩
          obtain ⟨x, hx, rfl⟩ := le_ex (n := 1000) (by decide) htt
          refine a_aload_n hX dX7_watched_29 rfl ?_
          refine gf_X7_41 rfl hX dX7_watched_30 ?_
          refine a_aload hX dX7_watched_33 rfl ?_
          refine a_iload_n hX dX7_watched_35 rfl ?_
          refine a_callV [_, _] hX c_X3_reckon mi_X3_reckon mv_X3_reckon se_X3_reckon (klt rfl (by decide)) (adr_lt (kd_lt rfl (by decide))) (cell_3 rfl) rfl li_X7_135 (by decide) rfl rfl (Nat.le_of_ble_eq_true rfl) (fun q => q) dX7_watched_36 ⟨_, _, rfl, (K4_f hkr2 hj66), (hF.pre ho.k hj66).1, (hF.pre ho.k hj66).2.1, (hF.pre ho.k hj66).2.2, ?_⟩
          intro w36 be en hf36 hs36 hr36 hb36 _
          have hk := RkT.mk2 (K4_f hkr2 hj66) hF ho.k hj66 hf36 hs36 hr36 hb36
          have hC36 := hC2.fr hf36 (fun z hz => by omega)
          have hm36 : FrM w w36 := hm2.tr (hf36.M (fun z hz => by omega))
          refine a_aload_n hX dX7_watched_39 rfl ?_
          refine gf_X7_41 rfl hX dX7_watched_40 ?_
          refine a_aload hX dX7_watched_43 rfl ?_
          refine a_iload_n hX dX7_watched_45 rfl ?_
          refine a_callV [_, _] hX c_X3_watchedDay mi_X3_watchedDay mv_X3_watchedDay se_X3_watchedDay (klt rfl (by decide)) (adr_lt (kd_lt rfl (by decide))) (cell_3 rfl) rfl li_X7_146 (by decide) rfl rfl (Nat.le_of_ble_eq_true rfl) (fun q => q) dX7_watched_46 ⟨_, _, _, _, _, rfl, hk.1, (vP_ag hk.2.1.ag.symm (ho.k.1 j6 hj66).1), hx, hk.2.2.1, hk.2.2.2.1, ?_⟩
          intro dc46 hd46
          rw [hk.wa ho.k hj66 hd46]
          have hwl := hk.wle (t := x) ho.k hj66
          refine a_callS [_] hX c_X7_dayOrNone mi_X7_dayOrNone ms_X7_dayOrNone li_X7_180 (by decide) rfl rfl (Nat.le_of_ble_eq_true rfl) (fun q => q) dX7_watched_49 ⟨_, rfl, ?_⟩
          refine a_iret hX hR dX7_watched_52 ⟨Nat.le_refl _, Nat.le_refl _⟩ rfl ?_
          exact po_int (h w36 hC36 hm36) (by unfold watchedS; rw [if_pos ⟨hip, htt⟩, hjx, ix_nI (by omega)]; exact (dyI_if2 hwl).symm)
        · refine a_iconst (-1) hX dX7_watched_27 (by decide) ?_
          refine a_iret hX hR dX7_watched_28 ⟨Nat.le_refl _, Nat.le_refl _⟩ rfl ?_
          first | exact po_int (h w2 hC2 hm2) (by unfold watchedS; rw [if_neg (fun z => hn6 z.1)]) | exact po_int (h w2 hC2 hm2) (by unfold watchedS; rw [if_neg (fun z => by grind)])
    · refine a_astoreN (ls' := [_, _, _, _, _]) hX dX7_watched_9 (Nat.le_of_ble_eq_true rfl) rfl ?_
      refine a_aloadN hX dX7_watched_11 rfl ?_
      refine a_ifnullN 27 hX dX7_watched_13 (by decide) ?_
      refine a_iconst (-1) hX dX7_watched_27 (by decide) ?_
      refine a_iret hX hR dX7_watched_28 ⟨Nat.le_refl _, Nat.le_refl _⟩ rfl ?_
      first | exact po_int (h w2 hC2 hm2) (by unfold watchedS; rw [if_neg (fun z => hn6 z.1)]) | exact po_int (h w2 hC2 hm2) (by unfold watchedS; rw [if_neg (fun z => by grind)])
abbrev T_X7_open : Tr := fun lay av w Po => ∃ (g : Sg) (p m : Int32), av = [.ref (lay 0), .int p, .int m] ∧ (CI g w) ∧ (okS g) ∧ ∀ w' : St, CI g w' → FrM w w' → Po (some (.int (openS g p m))) w'
set_option maxRecDepth 100000 in
set_option maxHeartbeats 4000000 in
theorem c_X7_open : Ct yX7_open cX7_open 4 (some .int) 6 0 0 T_X7_open := by
  refine Ct.mk (by decide +kernel) ?_
  intro X av w Po hX hR hT
  obtain ⟨g, p, m, rfl, hC, ho, h⟩ := hT
  refine ⟨rfl, ?_⟩
  show A X 0 0 0 [some (.ref (xlay X 0)), some (.int p), some (.int m), none] [] w
  refine a_aload_n hX dX7_open_0 rfl ?_
  refine a_aload_n hX dX7_open_1 rfl ?_
  refine a_callV [] hX c_X7_known mi_X7_known mv_X7_known se_X7_known (klt rfl (by decide)) (adr_lt (kd_lt rfl (by decide))) (cell_7 rfl) rfl li_X7_169 (by decide) rfl rfl (Nat.le_of_ble_eq_true rfl) (fun q => q) dX7_open_2 ⟨_, rfl, (by assumption), (by assumption), ?_⟩
  intro w2 r2 hr2 hg2 hC2 hf2
  · have hkr2 := kd_r hr2
    have hm2 := hf2.M (fun z hz => by omega)
    refine a_iload_n hX dX7_open_5 rfl ?_
    refine a_callV [_, _] hX c_X7_fileOf mi_X7_fileOf mv_X7_fileOf se_X7_fileOf (klt rfl (by decide)) (adr_lt (kd_lt rfl (by decide))) (cell_7 rfl) rfl li_X7_112 (by decide) rfl rfl (Nat.le_of_ble_eq_true rfl) (fun q => q) dX7_open_6 ⟨_, (gp g), _, rfl, hkr2, hC2.1.1.2.1, ho.1.2.1, ?_⟩
    refine ⟨fun j6 hj6 hj66 e6 => ?_, fun hn6 => ?_⟩
    · subst e6
      refine a_astore_n (ls' := [_, _, _, _]) hX dX7_open_9 (Nat.le_of_ble_eq_true rfl) rfl ?_
      refine a_aload_n hX dX7_open_10 rfl ?_
      refine a_ifnull hX dX7_open_11 ?_
      refine a_iload_n hX dX7_open_14 rfl ?_
      refine a_callS [_] hX c_X7_isMonth mi_X7_isMonth ms_X7_isMonth li_X7_109 (by decide) rfl rfl (Nat.le_of_ble_eq_true rfl) (fun q => q) dX7_open_15 ⟨_, rfl, ?_⟩
      refine a_if_ne_b 23 hX dX7_open_18 (by decide) (fun c_18 => ?_) (fun c_18 => ?_)
      · have hF := hg2 j6 hj66
        have hjx : ix (nI j6) = j6 := ix_nI (by omega)
        have hip := isP_nI ho.1.2.1 hj6
        obtain ⟨M, hM, rfl⟩ := isM_ex c_18
        refine a_aload_n hX dX7_open_23 rfl ?_
        refine a_iload_n hX dX7_open_24 rfl ?_
        refine a_callV [_] hX c_X1_isOpen mi_X1_isOpen mv_X1_isOpen se_X1_isOpen (klt (K4_f (show kd r2 = 4 by first | rfl | assumption) hj66) (by decide)) (adr_lt (kd_lt (K4_f (show kd r2 = 4 by first | rfl | assumption) hj66) (by decide))) (cell_1 (K4_f (show kd r2 = 4 by first | rfl | assumption) hj66)) rfl li_X7_206 (by decide) rfl rfl (Nat.le_of_ble_eq_true rfl) (fun q => q) dX7_open_25 ⟨_, _, rfl, (K4_f hkr2 hj66), hM, ?_⟩
        have hop : opP w2 (r2 + 1 + 1 + 17 * j6) M ↔ (mo (RSk g) (nI j6) (nI M) 0 = 3 ∨ (rowS (RSk g) (nI j6) (nI M) ∧ mo (RSk g) (nI j6) (nI M) 1 < 30)) := by
          unfold opP rowP rowS mo
          rw [hjx, ix_nI (by omega), (hF.2.1 M hM).1, (hF.2.1 M hM).2.1]
        refine a_if_eq_b 35 hX dX7_open_28 (by decide) (fun c_28 => ?_) (fun c_28 => ?_)
        · refine a_iconst (0) hX dX7_open_35 (by decide) ?_
          refine a_iret hX hR dX7_open_36 ⟨Nat.le_refl _, Nat.le_refl _⟩ rfl ?_
          exact po_int (h w2 hC2 hm2) (by unfold openS; rw [if_pos ⟨hip, c_18⟩]; first | rw [if_pos (hop.mp c_28)] | rw [if_neg (fun z => c_28 (hop.mpr z))])
        · refine a_iconst (1) hX dX7_open_31 (by decide) ?_
          refine a_goto 36 hX dX7_open_32 (by decide) ?_
          refine a_iret hX hR dX7_open_36 ⟨Nat.le_refl _, Nat.le_refl _⟩ rfl ?_
          exact po_int (h w2 hC2 hm2) (by unfold openS; rw [if_pos ⟨hip, c_18⟩]; first | rw [if_pos (hop.mp c_28)] | rw [if_neg (fun z => c_28 (hop.mpr z))])
      · refine a_iconst (-1) hX dX7_open_21 (by decide) ?_
        refine a_iret hX hR dX7_open_22 ⟨Nat.le_refl _, Nat.le_refl _⟩ rfl ?_
        first | exact po_int (h w2 hC2 hm2) (by unfold openS; rw [if_neg (fun z => hn6 z.1)]) | exact po_int (h w2 hC2 hm2) (by unfold openS; rw [if_neg (fun z => c_18 z.2)])
    · refine a_astore_nN (ls' := [_, _, _, _]) hX dX7_open_9 (Nat.le_of_ble_eq_true rfl) rfl ?_
      refine a_aload_nN hX dX7_open_10 rfl ?_
      refine a_ifnullN 21 hX dX7_open_11 (by decide) ?_
      refine a_iconst (-1) hX dX7_open_21 (by decide) ?_
      refine a_iret hX hR dX7_open_22 ⟨Nat.le_refl _, Nat.le_refl _⟩ rfl ?_
      first | exact po_int (h w2 hC2 hm2) (by unfold openS; rw [if_neg (fun z => hn6 z.1)]) | exact po_int (h w2 hC2 hm2) (by unfold openS; rw [if_neg (fun z => c_18 z.2)])
abbrev T_X7_over : Tr := fun lay av w Po => ∃ (g : Sg) (p : Int32), av = [.ref (lay 0), .int p] ∧ (CI g w) ∧ (okS g) ∧ ∀ w' : St, CI g w' → FrM w w' → Po (some (.int (overS g p))) w'
set_option maxRecDepth 100000 in
set_option maxHeartbeats 4000000 in
theorem c_X7_over : Ct yX7_over cX7_over 5 (some .int) 6 0 0 T_X7_over := by
  refine Ct.mk (by decide +kernel) ?_
  intro X av w Po hX hR hT
  obtain ⟨g, p, rfl, hC, ho, h⟩ := hT
  refine ⟨rfl, ?_⟩
  show A X 0 0 0 [some (.ref (xlay X 0)), some (.int p), none, none, none] [] w
  refine a_aload_n hX dX7_over_0 rfl ?_
  refine a_aload_n hX dX7_over_1 rfl ?_
  refine a_callV [] hX c_X7_known mi_X7_known mv_X7_known se_X7_known (klt rfl (by decide)) (adr_lt (kd_lt rfl (by decide))) (cell_7 rfl) rfl li_X7_169 (by decide) rfl rfl (Nat.le_of_ble_eq_true rfl) (fun q => q) dX7_over_2 ⟨_, rfl, (by assumption), (by assumption), ?_⟩
  intro w2 r2 hr2 hg2 hC2 hf2
  · have hkr2 := kd_r hr2
    have hm2 := hf2.M (fun z hz => by omega)
    refine a_iload_n hX dX7_over_5 rfl ?_
    refine a_callV [_, _] hX c_X7_fileOf mi_X7_fileOf mv_X7_fileOf se_X7_fileOf (klt rfl (by decide)) (adr_lt (kd_lt rfl (by decide))) (cell_7 rfl) rfl li_X7_112 (by decide) rfl rfl (Nat.le_of_ble_eq_true rfl) (fun q => q) dX7_over_6 ⟨_, (gp g), _, rfl, hkr2, hC2.1.1.2.1, ho.1.2.1, ?_⟩
    refine ⟨fun j6 hj6 hj66 e6 => ?_, fun hn6 => ?_⟩
    · subst e6
      refine a_astore_n (ls' := [_, _, _, _, _]) hX dX7_over_9 (Nat.le_of_ble_eq_true rfl) rfl ?_
      refine a_aload_n hX dX7_over_10 rfl ?_
      refine a_ifnonnull 16 hX dX7_over_11 (by decide) ?_
      have hF := hg2 j6 hj66
      have hjx : ix (nI j6) = j6 := ix_nI (by omega)
      have hip := isP_nI ho.1.2.1 hj6
      refine a_aload_n hX dX7_over_16 rfl ?_
      refine gf_X7_41 rfl hX dX7_over_17 ?_
      refine a_aload_n hX dX7_over_20 rfl ?_
      refine a_iconst (0) hX dX7_over_21 (by decide) ?_
      refine a_callV [_, _] hX c_X3_reckon mi_X3_reckon mv_X3_reckon se_X3_reckon (klt rfl (by decide)) (adr_lt (kd_lt rfl (by decide))) (cell_3 rfl) rfl li_X7_135 (by decide) rfl rfl (Nat.le_of_ble_eq_true rfl) (fun q => q) dX7_over_22 ⟨_, _, rfl, (K4_f hkr2 hj66), (hF.pre ho.k hj66).1, (hF.pre ho.k hj66).2.1, (hF.pre ho.k hj66).2.2, ?_⟩
      intro w22 be en hf22 hs22 hr22 hb22 _
      have hk := RkT.mk2 (K4_f hkr2 hj66) hF ho.k hj66 hf22 hs22 hr22 hb22
      have hC22 := hC2.fr hf22 (fun z hz => by omega)
      have hm22 : FrM w w22 := hm2.tr (hf22.M (fun z hz => by omega))
      refine a_iconst (0) hX dX7_over_25 (by decide) ?_
      refine a_istore_n (ls' := [_, _, _, _, _]) hX dX7_over_26 (Nat.le_of_ble_eq_true rfl) rfl ?_
      refine a_aload_n hX dX7_over_27 rfl ?_
      refine gf_X7_41 rfl hX dX7_over_28 ?_
      refine a_callV [] hX c_X3_fullDay mi_X3_fullDay mv_X3_fullDay se_X3_fullDay (klt rfl (by decide)) (adr_lt (kd_lt rfl (by decide))) (cell_3 rfl) rfl li_X7_150 (by decide) rfl rfl (Nat.le_of_ble_eq_true rfl) (fun q => q) dX7_over_31 ⟨_, _, _, _, rfl, hk.2.2.1, hk.2.2.2.1, ?_⟩
      rw [hk.fu ho.k hj66]
      have hfb := fuD_b (RSk g) j6 0
      have hfd : (if fuN (RSk g) j6 0 ≤ 3600 then fuN (RSk g) j6 0 else 100000) = fuD (RSk g) j6 0 := rfl
      rw [hfd]
      have hda := ho.da
      have ht3 := ho.1.2.2
      refine a_istore (ls' := [_, _, _, _, _]) hX dX7_over_34 (Nat.le_of_ble_eq_true rfl) rfl ?_
      have L36 : ∀ (fu : Nat) (d : Nat), 100002 - d < fu → (fuD (RSk g) j6 0 ≤ d) → (d ≤ daN g + 1 ∨ d = fuD (RSk g) j6 0) → A X 0 0 36 [some (.ref (xlay X 0)), some (.int (nI j6)), some (.ref (xlay X (r2 + 1 + 1 + 17 * j6))), some (.int (nI (fb_ct (fun d => decide (fuD (RSk g) j6 0 ≤ d) && tdB (RSk g) j6 d) d))), some (.int (nI d))] [] w22 := by
        intro fu
        induction fu with
        | zero => intro d hmu; exact absurd hmu (Nat.not_lt_zero _)
        | succ fu ih =>
          intro d hmu hfd2 hd2
          refine a_iload hX dX7_over_36 rfl ?_
          refine a_aload_n hX dX7_over_38 rfl ?_
          refine a_callV [] hX c_X7_dayAsked mi_X7_dayAsked mv_X7_dayAsked se_X7_dayAsked (klt rfl (by decide)) (adr_lt (kd_lt rfl (by decide))) (cell_7 rfl) rfl li_X7_209 (by decide) rfl rfl (Nat.le_of_ble_eq_true rfl) (fun q => q) dX7_over_39 ⟨rfl, ?_⟩
          rw [hC22.1.1.2.2.1, hC22.1.1.2.2.2, hda.2]
          refine a_icmp_gt 63 hX dX7_over_42 (by decide) (fun c_42 => ?_) (fun c_42 => ?_)
          · refine a_iload_n hX dX7_over_63 rfl ?_
            refine a_iret hX hR dX7_over_64 ⟨Nat.le_refl _, Nat.le_refl _⟩ rfl ?_
            have hgt : daN g < d := Nat.not_le.mp (fun z => absurd (nI_le z (by omega)) (Int32.not_le.mpr c_42))
            refine po_int (h w22 hC22 hm22) ?_
            unfold overS
            rw [if_pos hip, hjx]
            congr 1
            rcases hd2 with q | q
            · have : d = daN g + 1 := by omega
              rw [this]
            · rw [q, fb_ct_z (fun i hi => by rw [decide_eq_false (by omega)]; rfl), fb_ct_z (fun i hi => by rw [decide_eq_false (by omega)]; rfl)]
          · refine a_aload_n hX dX7_over_45 rfl ?_
            refine a_iload hX dX7_over_46 rfl ?_
            have hdd : d ≤ daN g := (nI_leI (by omega) (by omega)).mp (le_nlt c_42)
            have htd := hk.2.1.tdh ho.k.2 hj66 (show d < 3600 by omega)
            have hsu := fb_ct_succ (fun d => decide (fuD (RSk g) j6 0 ≤ d) && tdB (RSk g) j6 d) d
            refine a_callV [_] hX c_X1_isToldHeld mi_X1_isToldHeld mv_X1_isToldHeld se_X1_isToldHeld (klt hk.1 (by decide)) (adr_lt (kd_lt hk.1 (by decide))) (cell_1 hk.1) rfl li_X7_212 (by decide) rfl rfl (Nat.le_of_ble_eq_true rfl) (fun q => q) dX7_over_48 ⟨_, _, rfl, hk.1, (by omega), ?_⟩
            refine a_if_eq_b 57 hX dX7_over_51 (by decide) (fun c_51 => ?_) (fun c_51 => ?_)
            · refine a_iinc (ls' := [_, _, _, _, _]) (nI (d + 1)) hX dX7_over_57 rfl (nI_i1 d) rfl ?_
              refine a_goto 36 hX dX7_over_60 (by decide) ?_
              have hc9 : fb_ct (fun d => decide (fuD (RSk g) j6 0 ≤ d) && tdB (RSk g) j6 d) (d + 1) = fb_ct (fun d => decide (fuD (RSk g) j6 0 ≤ d) && tdB (RSk g) j6 d) d := by
                have htf : tdB (RSk g) j6 d = false := by
                  cases hz : tdB (RSk g) j6 d
                  · rfl
                  · exact absurd (htd.mpr hz) c_51
                rw [hsu, htf, Bool.and_false]
                rfl
              rw [← hc9]
              exact ih (d + 1) (by omega) (by omega) (by omega)
            · refine a_iinc (ls' := [_, _, _, _, _]) (nI (fb_ct (fun d => decide (fuD (RSk g) j6 0 ≤ d) && tdB (RSk g) j6 d) d + 1)) hX dX7_over_54 rfl (nI_i1 _) rfl ?_
              refine a_iinc (ls' := [_, _, _, _, _]) (nI (d + 1)) hX dX7_over_57 rfl (nI_i1 d) rfl ?_
              refine a_goto 36 hX dX7_over_60 (by decide) ?_
              have hc9 : fb_ct (fun d => decide (fuD (RSk g) j6 0 ≤ d) && tdB (RSk g) j6 d) (d + 1) = fb_ct (fun d => decide (fuD (RSk g) j6 0 ≤ d) && tdB (RSk g) j6 d) d + 1 := by
                rw [hsu, htd.mp c_51, decide_eq_true hfd2, Bool.and_true, if_pos rfl]
              rw [← hc9]
              exact ih (d + 1) (by omega) (by omega) (by omega)
      have h0 : fb_ct (fun d => decide (fuD (RSk g) j6 0 ≤ d) && tdB (RSk g) j6 d) (fuD (RSk g) j6 0) = 0 := fb_ct_z (fun i hi => by rw [decide_eq_false (by omega)]; rfl)
      have h9 := L36 100003 (fuD (RSk g) j6 0) (by omega) (Nat.le_refl _) (Or.inr rfl)
      rw [h0] at h9
      exact h9
    · refine a_astore_nN (ls' := [_, _, _, _, _]) hX dX7_over_9 (Nat.le_of_ble_eq_true rfl) rfl ?_
      refine a_aload_nN hX dX7_over_10 rfl ?_
      refine a_ifnonnullN hX dX7_over_11 ?_
      refine a_iconst (-1) hX dX7_over_14 (by decide) ?_
      refine a_iret hX hR dX7_over_15 ⟨Nat.le_refl _, Nat.le_refl _⟩ rfl ?_
      exact po_int (h w2 hC2 hm2) (by unfold overS; rw [if_neg hn6])
abbrev T_X7_ring : Tr := fun lay av w Po => ∃ (g : Sg) (i : Int32), av = [.ref (lay 0), .int i] ∧ (CI g w) ∧ (okS g) ∧ ∀ w' : St, CI g w' → FrM w w' → Po (some (.int (ringS g i))) w'
set_option maxRecDepth 100000 in
set_option maxHeartbeats 4000000 in
theorem c_X7_ring : Ct yX7_ring cX7_ring 2 (some .int) 1 0 0 T_X7_ring := by
  refine Ct.mk (by decide +kernel) ?_
  intro X av w Po hX hR hT
  obtain ⟨g, i, rfl, hC, ho, h⟩ := hT
  refine ⟨rfl, ?_⟩
  show A X 0 0 0 [some (.ref (xlay X 0)), some (.int i)] [] w
  refine a_aload_n hX dX7_ring_0 rfl ?_
  refine gf_X7_48 rfl hX dX7_ring_1 ?_
  refine a_iload_n hX dX7_ring_4 rfl ?_
  refine a_callV [_] hX c_X5_placeAt mi_X5_placeAt mv_X5_placeAt se_X5_placeAt (klt rfl (by decide)) (adr_lt (kd_lt rfl (by decide))) (cell_5 rfl) rfl li_X7_215 (by decide) rfl rfl (Nat.le_of_ble_eq_true rfl) (fun q => q) dX7_ring_5 ⟨_, rfl, ?_⟩
  refine a_iret hX hR dX7_ring_8 ⟨Nat.le_refl _, Nat.le_refl _⟩ rfl ?_
  exact po_int (h w hC FrM.rf) (by
    have h12 := ho.2.2.1.1
    have e1 := hC.1.2.2.2.2.2.2.1
    rw [e1]
    unfold ringS
    by_cases hc : 0 ≤ i ∧ i < nI (gr g)
    · obtain ⟨x, hx, rfl⟩ := rng_ex (n := gr g) (by omega) hc
      rw [if_pos hc, if_pos ⟨hc.1, hc.2, nI_lt (b := 12) (by omega) (by decide)⟩, ix_nI (by omega), hC.1.2.2.2.2.2.2.2 x hx]
    · rw [if_neg hc, if_neg (fun z => hc ⟨z.1, z.2.1⟩)])
abbrev T_X0_number : Tr := fun lay av w Po => ∃ (i : Nat) (j : Int32), av = [.ref (w.2.2.2 i), .int j] ∧ (i < w.2.2.1) ∧ Po (some (.int (if 0 ≤ j ∧ j ≤ 7 then w.1 (248 + i) (ix j) else -1))) w
set_option maxRecDepth 100000 in
set_option maxHeartbeats 4000000 in
theorem c_X0_number : Ct yX0_number cX0_number 2 (some .int) 0 0 0 T_X0_number := by
  refine Ct.mk (by decide +kernel) ?_
  intro X av w Po hX hR hT
  obtain ⟨i, j, rfl, hi, h⟩ := hT
  refine ⟨rfl, ?_⟩
  show A X 0 0 0 [some (.ref (w.2.2.2 i)), some (.int j)] [] w
  refine a_iload_n hX dX0_number_0 rfl ?_
  have hjc : j = 0 ∨ j = 1 ∨ j = 2 ∨ j = 3 ∨ j = 4 ∨ j = 5 ∨ j = 6 ∨ j = 7 ∨ ¬ (0 ≤ j ∧ j ≤ 7) := by
    by_cases hj : 0 ≤ j ∧ j ≤ 7
    · obtain ⟨y, hy, rfl⟩ := le_ex (n := 7) (by decide) hj
      rcases (show y = 0 ∨ y = 1 ∨ y = 2 ∨ y = 3 ∨ y = 4 ∨ y = 5 ∨ y = 6 ∨ y = 7 by omega) with rfl | rfl | rfl | rfl | rfl | rfl | rfl | rfl <;> simp <;> decide
    · simp [hj]
  rcases hjc with rfl | rfl | rfl | rfl | rfl | rfl | rfl | rfl | hj
  · refine a_tableIn (off := 47) 48 hX dX0_number_1 (by decide) (by decide) (by decide) (by decide) ?_
    refine a_aload_n hX dX0_number_48 rfl ?_
    refine gf_X0_27 hi hX dX0_number_49 ?_
    refine a_iret hX hR dX0_number_52 ⟨Nat.le_refl _, Nat.le_refl _⟩ rfl ?_
    exact po_int h (by first | rfl | exact if_neg hj)
  · refine a_tableIn (off := 52) 53 hX dX0_number_1 (by decide) (by decide) (by decide) (by decide) ?_
    refine a_aload_n hX dX0_number_53 rfl ?_
    refine gf_X0_30 hi hX dX0_number_54 ?_
    refine a_iret hX hR dX0_number_57 ⟨Nat.le_refl _, Nat.le_refl _⟩ rfl ?_
    exact po_int h (by first | rfl | exact if_neg hj)
  · refine a_tableIn (off := 57) 58 hX dX0_number_1 (by decide) (by decide) (by decide) (by decide) ?_
    refine a_aload_n hX dX0_number_58 rfl ?_
    refine gf_X0_33 hi hX dX0_number_59 ?_
    refine a_iret hX hR dX0_number_62 ⟨Nat.le_refl _, Nat.le_refl _⟩ rfl ?_
    exact po_int h (by first | rfl | exact if_neg hj)
  · refine a_tableIn (off := 62) 63 hX dX0_number_1 (by decide) (by decide) (by decide) (by decide) ?_
    refine a_aload_n hX dX0_number_63 rfl ?_
    refine gf_X0_36 hi hX dX0_number_64 ?_
    refine a_iret hX hR dX0_number_67 ⟨Nat.le_refl _, Nat.le_refl _⟩ rfl ?_
    exact po_int h (by first | rfl | exact if_neg hj)
  · refine a_tableIn (off := 67) 68 hX dX0_number_1 (by decide) (by decide) (by decide) (by decide) ?_
    refine a_aload_n hX dX0_number_68 rfl ?_
    refine gf_X0_9 hi hX dX0_number_69 ?_
    refine a_iret hX hR dX0_number_72 ⟨Nat.le_refl _, Nat.le_refl _⟩ rfl ?_
    exact po_int h (by first | rfl | exact if_neg hj)
  · refine a_tableIn (off := 72) 73 hX dX0_number_1 (by decide) (by decide) (by decide) (by decide) ?_
    refine a_aload_n hX dX0_number_73 rfl ?_
    refine gf_X0_15 hi hX dX0_number_74 ?_
    refine a_iret hX hR dX0_number_77 ⟨Nat.le_refl _, Nat.le_refl _⟩ rfl ?_
    exact po_int h (by first | rfl | exact if_neg hj)
  · refine a_tableIn (off := 77) 78 hX dX0_number_1 (by decide) (by decide) (by decide) (by decide) ?_
    refine a_aload_n hX dX0_number_78 rfl ?_
    refine gf_X0_18 hi hX dX0_number_79 ?_
    refine a_iret hX hR dX0_number_82 ⟨Nat.le_refl _, Nat.le_refl _⟩ rfl ?_
    exact po_int h (by first | rfl | exact if_neg hj)
  · refine a_tableIn (off := 82) 83 hX dX0_number_1 (by decide) (by decide) (by decide) (by decide) ?_
    refine a_aload_n hX dX0_number_83 rfl ?_
    refine gf_X0_21 hi hX dX0_number_84 ?_
    refine a_iret hX hR dX0_number_87 ⟨Nat.le_refl _, Nat.le_refl _⟩ rfl ?_
    exact po_int h (by first | rfl | exact if_neg hj)
  · refine a_tableOut 88 hX dX0_number_1 (by
        rw [Int32.le_iff_toInt_le, Int32.le_iff_toInt_le] at hj
        have e7 : (7 : Int32).toInt = 7 := rfl
        have e0 : (0 : Int32).toInt = 0 := rfl
        omega) (by decide) ?_
    refine a_iconst (-1) hX dX0_number_88 (by decide) ?_
    refine a_iret hX hR dX0_number_89 ⟨Nat.le_refl _, Nat.le_refl _⟩ rfl ?_
    exact po_int h (by first | rfl | exact if_neg hj)
abbrev T_X7_image : Tr := fun lay av w Po => ∃ (g : Sg) (i j : Int32), av = [.ref (lay 0), .int i, .int j] ∧ (CI g w) ∧ (okS g) ∧ ∀ w' : St, CI g w' → FrM w w' → Po (some (.int (imageS g i j))) w'
set_option maxRecDepth 100000 in
set_option maxHeartbeats 4000000 in
theorem c_X7_image : Ct yX7_image cX7_image 4 (some .int) 1 0 0 T_X7_image := by
  refine Ct.mk (by decide +kernel) ?_
  intro X av w Po hX hR hT
  obtain ⟨g, i, j, rfl, hC, ho, h⟩ := hT
  refine ⟨rfl, ?_⟩
  show A X 0 0 0 [some (.ref (xlay X 0)), some (.int i), some (.int j), none] [] w
  refine a_iload_n hX dX7_image_0 rfl ?_
  refine a_if_lt 21 hX dX7_image_1 (by decide) (fun c_1 => ?_) (fun c_1 => ?_)
  · refine a_null hX dX7_image_21 ?_
    refine a_astore_nN (ls' := [_, _, _, _]) hX dX7_image_22 (Nat.le_of_ble_eq_true rfl) rfl ?_
    refine a_aload_nN hX dX7_image_23 rfl ?_
    refine a_ifnonnullN hX dX7_image_24 ?_
    refine a_iconst (-1) hX dX7_image_27 (by decide) ?_
    refine a_goto 36 hX dX7_image_28 (by decide) ?_
    refine a_iret hX hR dX7_image_36 ⟨Nat.le_refl _, Nat.le_refl _⟩ rfl ?_
    first
    | exact po_int (h w hC FrM.rf) (by
        unfold imageS
        rw [ix_nI (by omega)]
        by_cases hj : 0 ≤ j ∧ j ≤ 7
        · rw [if_pos hj, if_pos ⟨in_rng hx (by omega), hj⟩]
          obtain ⟨y, hy, rfl⟩ := le_ex (n := 7) (by decide) hj
          rw [ix_nI (by omega)]
          exact (hC.1.2.2.2.1 x hx y (by omega)).symm
        · rw [if_neg hj, if_neg (fun z => hj z.2)])
    | exact po_int (h w hC FrM.rf) (by unfold imageS; rw [if_neg (fun z => by first | exact absurd z.1.1 (Int32.not_le.mpr c_1) | exact absurd z.1.2 (Int32.not_lt.mpr c_9))])
  · refine a_iload_n hX dX7_image_4 rfl ?_
    refine a_aload_n hX dX7_image_5 rfl ?_
    refine gf_X7_15 rfl hX dX7_image_6 ?_
    rw [hC.1.1.1]
    have hn4 := ho.1.1
    refine a_icmp_ge 21 hX dX7_image_9 (by decide) (fun c_9 => ?_) (fun c_9 => ?_)
    · refine a_null hX dX7_image_21 ?_
      refine a_astore_nN (ls' := [_, _, _, _]) hX dX7_image_22 (Nat.le_of_ble_eq_true rfl) rfl ?_
      refine a_aload_nN hX dX7_image_23 rfl ?_
      refine a_ifnonnullN hX dX7_image_24 ?_
      refine a_iconst (-1) hX dX7_image_27 (by decide) ?_
      refine a_goto 36 hX dX7_image_28 (by decide) ?_
      refine a_iret hX hR dX7_image_36 ⟨Nat.le_refl _, Nat.le_refl _⟩ rfl ?_
      first
      | exact po_int (h w hC FrM.rf) (by
          unfold imageS
          rw [ix_nI (by omega)]
          by_cases hj : 0 ≤ j ∧ j ≤ 7
          · rw [if_pos hj, if_pos ⟨in_rng hx (by omega), hj⟩]
            obtain ⟨y, hy, rfl⟩ := le_ex (n := 7) (by decide) hj
            rw [ix_nI (by omega)]
            exact (hC.1.2.2.2.1 x hx y (by omega)).symm
          · rw [if_neg hj, if_neg (fun z => hj z.2)])
      | exact po_int (h w hC FrM.rf) (by unfold imageS; rw [if_neg (fun z => by first | exact absurd z.1.1 (Int32.not_le.mpr c_1) | exact absurd z.1.2 (Int32.not_lt.mpr c_9))])
    · obtain ⟨x, hx, rfl⟩ := rng_ex (n := gn g) (by omega) ⟨le_nlt c_1, lt_nle c_9⟩
      have hnw := hC.1.2.2.1
      refine a_aload_n hX dX7_image_12 rfl ?_
      refine gf_X7_11 rfl hX dX7_image_13 ?_
      refine a_iload_n hX dX7_image_16 rfl ?_
      refine a_ald_log x hX rfl (by omega) (by rw [hC.1.2.1]; exact hx) dX7_image_17 ?_
      refine a_goto 22 hX dX7_image_18 (by decide) ?_
      refine a_astore_n (ls' := [_, _, _, _]) hX dX7_image_22 (Nat.le_of_ble_eq_true rfl) rfl ?_
      refine a_aload_n hX dX7_image_23 rfl ?_
      refine a_ifnonnull 31 hX dX7_image_24 (by decide) ?_
      refine a_aload_n hX dX7_image_31 rfl ?_
      refine a_iload_n hX dX7_image_32 rfl ?_
      refine a_callV [_] hX c_X0_number mi_X0_number mv_X0_number se_X0_number (Nat.add_lt_add_left (by omega) 248) adr_ge (cell_0 (kd_ge _)) rfl li_X7_221 (by decide) rfl rfl (Nat.le_of_ble_eq_true rfl) (fun q => q) dX7_image_33 ⟨_, _, rfl, (by omega), ?_⟩
      refine a_iret hX hR dX7_image_36 ⟨Nat.le_refl _, Nat.le_refl _⟩ rfl ?_
      first
      | exact po_int (h w hC FrM.rf) (by
          unfold imageS
          rw [ix_nI (by omega)]
          by_cases hj : 0 ≤ j ∧ j ≤ 7
          · rw [if_pos hj, if_pos ⟨in_rng hx (by omega), hj⟩]
            obtain ⟨y, hy, rfl⟩ := le_ex (n := 7) (by decide) hj
            rw [ix_nI (by omega)]
            exact (hC.1.2.2.2.1 x hx y (by omega)).symm
          · rw [if_neg hj, if_neg (fun z => hj z.2)])
      | exact po_int (h w hC FrM.rf) (by unfold imageS; rw [if_neg (fun z => by first | exact absurd z.1.1 (Int32.not_le.mpr c_1) | exact absurd z.1.2 (Int32.not_lt.mpr c_9))])
abbrev T_X7_count : Tr := fun lay av w Po => ∃ (g : Sg) (x : Int32), av = [.ref (lay 0), .int x] ∧ (CI g w) ∧ (okS g) ∧ ∀ w' : St, CI g w' → FrM w w' → Po (some (.int (countS g x))) w'
set_option maxRecDepth 100000 in
set_option maxHeartbeats 4000000 in
theorem c_X7_count : Ct yX7_count cX7_count 2 (some .int) 1 0 0 T_X7_count := by
  refine Ct.mk (by decide +kernel) ?_
  intro X av w Po hX hR hT
  obtain ⟨g, x, rfl, hC, ho, h⟩ := hT
  refine ⟨rfl, ?_⟩
  show A X 0 0 0 [some (.ref (xlay X 0)), some (.int x)] [] w
  refine a_iload_n hX dX7_count_0 rfl ?_
  have hxc : x = 0 ∨ x = 1 ∨ x = 2 ∨ x = 3 ∨ ¬ (0 ≤ x ∧ x ≤ 3) := by
    by_cases hj : 0 ≤ x ∧ x ≤ 3
    · obtain ⟨y, hy, rfl⟩ := le_ex (n := 3) (by decide) hj
      rcases (show y = 0 ∨ y = 1 ∨ y = 2 ∨ y = 3 by omega) with rfl | rfl | rfl | rfl <;> simp <;> decide
    · simp [hj]
  rcases hxc with rfl | rfl | rfl | rfl | hj
  · refine a_tableIn (off := 31) 32 hX dX7_count_1 (by decide) (by decide) (by decide) (by decide) ?_
    refine a_aload_n hX dX7_count_32 rfl ?_
    refine gf_X7_22 rfl hX dX7_count_33 ?_
    rw [hC.1.1.2.2.1]
    refine a_iret hX hR dX7_count_36 ⟨Nat.le_refl _, Nat.le_refl _⟩ rfl ?_
    exact po_int (h w hC FrM.rf) rfl
  · refine a_tableIn (off := 36) 37 hX dX7_count_1 (by decide) (by decide) (by decide) (by decide) ?_
    refine a_aload_n hX dX7_count_37 rfl ?_
    refine gf_X7_19 rfl hX dX7_count_38 ?_
    rw [hC.1.1.2.1]
    refine a_iret hX hR dX7_count_41 ⟨Nat.le_refl _, Nat.le_refl _⟩ rfl ?_
    exact po_int (h w hC FrM.rf) rfl
  · refine a_tableIn (off := 41) 42 hX dX7_count_1 (by decide) (by decide) (by decide) (by decide) ?_
    refine a_aload_n hX dX7_count_42 rfl ?_
    refine gf_X7_15 rfl hX dX7_count_43 ?_
    rw [hC.1.1.1]
    refine a_iret hX hR dX7_count_46 ⟨Nat.le_refl _, Nat.le_refl _⟩ rfl ?_
    exact po_int (h w hC FrM.rf) rfl
  · refine a_tableIn (off := 46) 47 hX dX7_count_1 (by decide) (by decide) (by decide) (by decide) ?_
    refine a_aload_n hX dX7_count_47 rfl ?_
    refine a_callV [] hX c_X7_dayAsked mi_X7_dayAsked mv_X7_dayAsked se_X7_dayAsked (klt rfl (by decide)) (adr_lt (kd_lt rfl (by decide))) (cell_7 rfl) rfl li_X7_209 (by decide) rfl rfl (Nat.le_of_ble_eq_true rfl) (fun q => q) dX7_count_48 ⟨rfl, ?_⟩
    rw [hC.1.1.2.2.1, hC.1.1.2.2.2, ho.da.2]
    refine a_iret hX hR dX7_count_51 ⟨Nat.le_refl _, Nat.le_refl _⟩ rfl ?_
    exact po_int (h w hC FrM.rf) rfl
  · refine a_tableOut 52 hX dX7_count_1 (by
        rw [Int32.le_iff_toInt_le, Int32.le_iff_toInt_le] at hj
        have e7 : (3 : Int32).toInt = 3 := rfl
        have e0 : (0 : Int32).toInt = 0 := rfl
        omega) (by decide) ?_
    refine a_iconst (-1) hX dX7_count_52 (by decide) ?_
    refine a_iret hX hR dX7_count_53 ⟨Nat.le_refl _, Nat.le_refl _⟩ rfl ?_
    exact po_int (h w hC FrM.rf) (by
      unfold countS
      rw [if_neg (fun z => hj (by rw [z]; decide)), if_neg (fun z => hj (by rw [z]; decide)), if_neg (fun z => hj (by rw [z]; decide)), if_neg (fun z => hj (by rw [z]; decide))])
