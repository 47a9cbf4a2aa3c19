/-! the reference: what is asked -/
theorem nvI_dyI {x : Nat} (h : bdN x) : nvI x = dyI x := by
  unfold nvI dyI
  unfold bdN at h
  by_cases hx : x = 100000
  · rw [if_pos hx, if_neg (by omega)]
  · rw [if_neg hx, if_pos (by omega)]
theorem MK.get {w : St} {S : RS} {P k : Nat} {mst : Int32} {be en : Nat → Nat} (h : MK w S P mst be en) (hg : gdS S) (hP : P < 6) (hk : k < 12) (hs : stB (S.1 P) k = true) : (w.1 238 k = nvI (beN S P mst k) ∧ bdN (beN S P mst k)) ∧ (w.1 239 k = nvI (eeN S P mst k) ∧ bdN (eeN S P mst k)) ∧ ∀ x, x < 3600 → w.1 240 (3600 * k + x) = (if ctN S P mst k x then 1 else 0) ∧ w.1 241 (3600 * k + x) = nI (fb_ct (ctN S P mst k) (x + 1)) ∧ w.1 242 (3600 * k + x) = nI (tkS S P mst k x) := by
  obtain ⟨t1, t2, t3⟩ := sol_tie hg hP h.2.1 hk hs
  obtain ⟨a, b, c⟩ := h.2.2 k hk hs
  rw [t1] at a
  rw [t2] at b
  refine ⟨a, b, fun x hx => ?_⟩
  obtain ⟨c1, c2, c3⟩ := c x hx
  refine ⟨by rw [c1, t3], by rw [c2, fb_ct_cong2 (fun y hy => t3 y)], ?_⟩
  rw [c3, tl_cong (fun y hy => t3 y)]
  rfl
theorem ordS_ex8 {g : Sg} {p l : Int32} (ho : okS g) (h : ordS g p l) : ∃ j i, j < gp g ∧ j < 6 ∧ i < 12 ∧ p = nI j ∧ l = nI i ∧ ix p = j ∧ ix l = i ∧ stB ((RSk g).1 j) i = true := ordS_ex ho h
theorem ckB {S : RS} {P k d s : Nat} {b : Int32} (hs : s < 32) : ckN S P k d b (32 - s) = if (decide (d + s < 3600) && ctN S P 0 k (d + s)) ≠ bt b s then nI (d + s) else ckN S P k d b (32 - (s + 1)) := by
  have h9 := ckN_succ S P k d b (32 - (s + 1))
  rw [show 32 - (s + 1) + 1 = 32 - s by omega, show 32 - (32 - s) = s by omega] at h9
  exact h9
abbrev T_X8_isThere : Tr := fun lay av w Po => ∃ (g : Sg) (p l : Int32), av = [.ref (lay 221), .int p, .int l] ∧ (MD g w) ∧ (okS g) ∧ ∀ w' : St, FrS w w' → (isP g p ∧ isL l → MP w' (RSk g) (ix p)) → Po (some (.int (bI (isP g p ∧ isL l)))) w'
set_option maxRecDepth 100000 in
set_option maxHeartbeats 4000000 in
theorem c_X8_isThere : Ct yX8_isThere cX8_isThere 3 (some .boolean) 3 0 0 T_X8_isThere := by
  refine Ct.mk (by decide +kernel) ?_
  intro X av w Po hX hR hT
  obtain ⟨g, p, l, rfl, hD, ho, h⟩ := hT
  refine ⟨rfl, ?_⟩
  show A X 0 0 0 [some (.ref (xlay X 221)), some (.int p), some (.int l)] [] w
  refine a_aload_n hX dX8_isThere_0 rfl ?_
  refine a_iload_n hX dX8_isThere_1 rfl ?_
  refine a_callV [_] hX c_X8_isPerson mi_X8_isPerson mv_X8_isPerson se_X8_isPerson (klt rfl (by decide)) (adr_lt (kd_lt rfl (by decide))) (cell_8 rfl) rfl li_X8_150 (by decide) rfl rfl (Nat.le_of_ble_eq_true rfl) (fun q => q) dX8_isThere_2 ⟨_, rfl, ?_⟩
  rw [hD.1.2.2.1]
  refine a_if_eq_b 15 hX dX8_isThere_5 (by decide) (fun c_5 => ?_) (fun c_5 => ?_)
  · refine a_iconst (0) hX dX8_isThere_15 (by decide) ?_
    refine a_iret hX hR dX8_isThere_16 ⟨Nat.le_refl _, Nat.le_refl _⟩ rfl ?_
    first | exact po_int (h w FrS.rf (fun z => absurd z.1 c_5)) (bI_f (fun z => c_5 z.1)) | exact po_int (h w FrS.rf (fun z => absurd z.2 c_12)) (bI_f (fun z => c_12 z.2))
  · refine a_iload_n hX dX8_isThere_8 rfl ?_
    refine a_callS [_] hX c_X8_isPlace mi_X8_isPlace ms_X8_isPlace li_X8_153 (by decide) rfl rfl (Nat.le_of_ble_eq_true rfl) (fun q => q) dX8_isThere_9 ⟨_, rfl, ?_⟩
    refine a_if_ne_b 17 hX dX8_isThere_12 (by decide) (fun c_12 => ?_) (fun c_12 => ?_)
    · have hip := c_5
      obtain ⟨j, hjg, hj6, rfl⟩ := isP_ex ho c_5
      have hda := ho.da
      have ht3 := ho.1.2.2
      refine a_aload_n hX dX8_isThere_17 rfl ?_
      refine a_iload_n hX dX8_isThere_18 rfl ?_
      refine a_aload_n hX dX8_isThere_19 rfl ?_
      refine a_callV [] hX c_X8_known mi_X8_known mv_X8_known se_X8_known (klt rfl (by decide)) (adr_lt (kd_lt rfl (by decide))) (cell_8 rfl) rfl li_X8_202 (by decide) rfl rfl (Nat.le_of_ble_eq_true rfl) (fun q => q) dX8_isThere_20 ⟨_, rfl, hD, ho, ?_⟩
      refine a_callV [_, _] hX c_X8_tellAgain mi_X8_tellAgain mv_X8_tellAgain se_X8_tellAgain (klt rfl (by decide)) (adr_lt (kd_lt rfl (by decide))) (cell_8 rfl) rfl li_X8_140 (by decide) rfl rfl (Nat.le_of_ble_eq_true rfl) (fun q => q) dX8_isThere_23 ⟨g, _, _, rfl, hD, ho, hj6, (by omega), ?_⟩
      intro w23 h23 hm23
      refine a_iconst (1) hX dX8_isThere_26 (by decide) ?_
      refine a_iret hX hR dX8_isThere_27 ⟨Nat.le_refl _, Nat.le_refl _⟩ rfl ?_
      exact po_int (h w23 h23 (fun _ => by rw [ix_nI (by omega)]; exact hm23)) (bI_t ⟨hip, c_12⟩)
    · refine a_iconst (0) hX dX8_isThere_15 (by decide) ?_
      refine a_iret hX hR dX8_isThere_16 ⟨Nat.le_refl _, Nat.le_refl _⟩ rfl ?_
      first | exact po_int (h w FrS.rf (fun z => absurd z.1 c_5)) (bI_f (fun z => c_5 z.1)) | exact po_int (h w FrS.rf (fun z => absurd z.2 c_12)) (bI_f (fun z => c_12 z.2))
abbrev T_X8_isOrder : Tr := fun lay av w Po => ∃ (g : Sg) (p l mst : Int32), av = [.ref (lay 221), .int p, .int l, .int mst] ∧ (MD g w) ∧ (okS g) ∧ ∀ w' : St, FrS w w' → (ordS g p l → ∃ be en, MK w' (RSk g) (ix p) mst be en) → Po (some (.int (bI (ordS g p l)))) w'
set_option maxRecDepth 100000 in
set_option maxHeartbeats 4000000 in
theorem c_X8_isOrder : Ct yX8_isOrder cX8_isOrder 4 (some .boolean) 5 0 0 T_X8_isOrder := by
  refine Ct.mk (by decide +kernel) ?_
  intro X av w Po hX hR hT
  obtain ⟨g, p, l, mst, rfl, hD, ho, h⟩ := hT
  refine ⟨rfl, ?_⟩
  show A X 0 0 0 [some (.ref (xlay X 221)), some (.int p), some (.int l), some (.int mst)] [] w
  refine a_aload_n hX dX8_isOrder_0 rfl ?_
  refine a_iload_n hX dX8_isOrder_1 rfl ?_
  refine a_iload_n hX dX8_isOrder_2 rfl ?_
  refine a_callV [_, _] hX c_X8_isThere mi_X8_isThere mv_X8_isThere se_X8_isThere (klt rfl (by decide)) (adr_lt (kd_lt rfl (by decide))) (cell_8 rfl) rfl li_X8_205 (by decide) rfl rfl (Nat.le_of_ble_eq_true rfl) (fun q => q) dX8_isOrder_3 ⟨_, _, _, rfl, hD, ho, ?_⟩
  intro w3 h3 hm3
  have hDX := hD.s h3
  refine a_if_eq_b 17 hX dX8_isOrder_6 (by decide) (fun c_6 => ?_) (fun c_6 => ?_)
  · refine a_iconst (0) hX dX8_isOrder_17 (by decide) ?_
    refine a_iret hX hR dX8_isOrder_18 ⟨Nat.le_refl _, Nat.le_refl _⟩ rfl ?_
    first | exact po_int (h w3 h3 (fun z => absurd z.1 c_6)) (bI_f (fun z => c_6 z.1)) | exact po_int (h w3 h3 (fun z => absurd (hsc.mpr (hor.mp z)) c_14)) (bI_f (fun z => c_14 (hsc.mpr (hor.mp z))))
  · have hm9 := hm3 c_6
    have hipl := c_6
    obtain ⟨j, hjg, hj6, rfl⟩ := isP_ex ho c_6.1
    obtain ⟨i, hi, rfl⟩ := isL_ex c_6.2
    rw [ix_nI (by omega)] at hm9
    have hsc := stB_cell hm9.1 hi
    have hor : ordS g (nI j) (nI i) ↔ stB ((RSk g).1 j) i = true := by
      unfold ordS
      rw [ix_nI (by omega), ix_nI (by omega)]
      exact ⟨fun z => z.2, fun z => ⟨hipl, z⟩⟩
    have hda := ho.da
    have ht3 := ho.1.2.2
    refine a_aload_n hX dX8_isOrder_9 rfl ?_
    refine a_iload_n hX dX8_isOrder_10 rfl ?_
    refine a_callV [_] hX c_X8_isLive mi_X8_isLive mv_X8_isLive se_X8_isLive (klt rfl (by decide)) (adr_lt (kd_lt rfl (by decide))) (cell_8 rfl) rfl li_X8_121 (by decide) rfl rfl (Nat.le_of_ble_eq_true rfl) (fun q => q) dX8_isOrder_11 ⟨_, rfl, hi, ?_⟩
    refine a_if_ne_b 19 hX dX8_isOrder_14 (by decide) (fun c_14 => ?_) (fun c_14 => ?_)
    · refine a_aload_n hX dX8_isOrder_19 rfl ?_
      refine a_iload_n hX dX8_isOrder_20 rfl ?_
      refine a_aload_n hX dX8_isOrder_21 rfl ?_
      refine a_callV [] hX c_X8_known mi_X8_known mv_X8_known se_X8_known (klt rfl (by decide)) (adr_lt (kd_lt rfl (by decide))) (cell_8 rfl) rfl li_X8_202 (by decide) rfl rfl (Nat.le_of_ble_eq_true rfl) (fun q => q) dX8_isOrder_22 ⟨_, rfl, hDX, ho, ?_⟩
      refine a_iload_n hX dX8_isOrder_25 rfl ?_
      refine a_callV [_, _, _] hX c_X8_reckon mi_X8_reckon mv_X8_reckon se_X8_reckon (klt rfl (by decide)) (adr_lt (kd_lt rfl (by decide))) (cell_8 rfl) rfl li_X8_192 (by decide) rfl rfl (Nat.le_of_ble_eq_true rfl) (fun q => q) dX8_isOrder_26 ⟨g, _, _, _, rfl, hDX, ho, hj6, (by omega), ?_⟩
      intro w26 be en h26 hk26
      have hk26 : MK w26 (RSk g) j mst be en := hk26
      refine a_iconst (1) hX dX8_isOrder_29 (by decide) ?_
      refine a_iret hX hR dX8_isOrder_30 ⟨Nat.le_refl _, Nat.le_refl _⟩ rfl ?_
      exact po_int (h w26 (h3.tr h26) (fun _ => ⟨be, en, by rw [ix_nI (by omega)]; exact hk26⟩)) (bI_t (hor.mpr (hsc.mp c_14)))
    · refine a_iconst (0) hX dX8_isOrder_17 (by decide) ?_
      refine a_iret hX hR dX8_isOrder_18 ⟨Nat.le_refl _, Nat.le_refl _⟩ rfl ?_
      first | exact po_int (h w3 h3 (fun z => absurd z.1 c_6)) (bI_f (fun z => c_6 z.1)) | exact po_int (h w3 h3 (fun z => absurd (hsc.mpr (hor.mp z)) c_14)) (bI_f (fun z => c_14 (hsc.mpr (hor.mp z))))
abbrev T_X8_kind : Tr := fun lay av w Po => ∃ (g : Sg) (p l : Int32), av = [.ref (lay 221), .int p, .int l] ∧ (MD g w) ∧ (okS g) ∧ ∀ w' : St, MD g w' → FrC w w' → Po (some (.int (kindS g p l))) w'
set_option maxRecDepth 100000 in
set_option maxHeartbeats 4000000 in
theorem c_X8_kind : Ct yX8_kind cX8_kind 3 (some .int) 4 0 0 T_X8_kind := by
  refine Ct.mk (by decide +kernel) ?_
  intro X av w Po hX hR hT
  obtain ⟨g, p, l, rfl, hD, ho, h⟩ := hT
  refine ⟨rfl, ?_⟩
  show A X 0 0 0 [some (.ref (xlay X 221)), some (.int p), some (.int l)] [] w
  refine a_aload_n hX dX8_kind_0 rfl ?_
  refine a_iload_n hX dX8_kind_1 rfl ?_
  refine a_iload_n hX dX8_kind_2 rfl ?_
  refine a_callV [_, _] hX c_X8_isThere mi_X8_isThere mv_X8_isThere se_X8_isThere (klt rfl (by decide)) (adr_lt (kd_lt rfl (by decide))) (cell_8 rfl) rfl li_X8_205 (by decide) rfl rfl (Nat.le_of_ble_eq_true rfl) (fun q => q) dX8_kind_3 ⟨_, _, _, rfl, hD, ho, ?_⟩
  intro w3 h3 hm3
  refine a_if_eq_b 18 hX dX8_kind_6 (by decide) (fun c_6 => ?_) (fun c_6 => ?_)
  · refine a_iconst (-1) hX dX8_kind_18 (by decide) ?_
    refine a_iret hX hR dX8_kind_19 ⟨Nat.le_refl _, Nat.le_refl _⟩ rfl ?_
    first
    | exact po_int (h w3 (hD.s h3) h3.C) (by unfold kindS pl; rw [if_pos c_6, ix_nI (show i < 2 ^ 31 by omega)]; exact ((hm9.1 i hi).1).symm)
    | exact po_int (h w3 (hD.s h3) h3.C) (by unfold kindS; rw [if_neg c_6])
  · have hm9 := hm3 c_6
    obtain ⟨i, hi, rfl⟩ := isL_ex c_6.2
    refine a_aload_n hX dX8_kind_9 rfl ?_
    refine gf_X8_20 rfl hX dX8_kind_10 ?_
    refine a_iload_n hX dX8_kind_13 rfl ?_
    refine a_iald (i) hX rfl rfl (show _ < 12 by omega) dX8_kind_14 ?_
    refine a_goto 19 hX dX8_kind_15 (by decide) ?_
    refine a_iret hX hR dX8_kind_19 ⟨Nat.le_refl _, Nat.le_refl _⟩ rfl ?_
    first
    | exact po_int (h w3 (hD.s h3) h3.C) (by unfold kindS pl; rw [if_pos c_6, ix_nI (show i < 2 ^ 31 by omega)]; exact ((hm9.1 i hi).1).symm)
    | exact po_int (h w3 (hD.s h3) h3.C) (by unfold kindS; rw [if_neg c_6])
abbrev T_X8_begins : Tr := fun lay av w Po => ∃ (g : Sg) (p l m : Int32), av = [.ref (lay 221), .int p, .int l, .int m] ∧ (MD g w) ∧ (okS g) ∧ ∀ w' : St, MD g w' → FrC w w' → Po (some (.int (beginsS g p l m))) w'
set_option maxRecDepth 100000 in
set_option maxHeartbeats 4000000 in
theorem c_X8_begins : Ct yX8_begins cX8_begins 4 (some .int) 6 0 0 T_X8_begins := by
  refine Ct.mk (by decide +kernel) ?_
  intro X av w Po hX hR hT
  obtain ⟨g, p, l, m, rfl, hD, ho, h⟩ := hT
  refine ⟨rfl, ?_⟩
  show A X 0 0 0 [some (.ref (xlay X 221)), some (.int p), some (.int l), some (.int m)] [] w
  refine a_aload_n hX dX8_begins_0 rfl ?_
  refine a_iload_n hX dX8_begins_1 rfl ?_
  refine a_iload_n hX dX8_begins_2 rfl ?_
  refine a_iload_n hX dX8_begins_3 rfl ?_
  refine a_callV [_, _, _] hX c_X8_isOrder mi_X8_isOrder mv_X8_isOrder se_X8_isOrder (klt rfl (by decide)) (adr_lt (kd_lt rfl (by decide))) (cell_8 rfl) rfl li_X8_208 (by decide) rfl rfl (Nat.le_of_ble_eq_true rfl) (fun q => q) dX8_begins_4 ⟨_, _, _, _, rfl, hD, ho, ?_⟩
  intro w4 h4 hk4
  refine a_if_eq_b 19 hX dX8_begins_7 (by decide) (fun c_7 => ?_) (fun c_7 => ?_)
  · refine a_iconst (-1) hX dX8_begins_19 (by decide) ?_
    refine a_iret hX hR dX8_begins_20 ⟨Nat.le_refl _, Nat.le_refl _⟩ rfl ?_
    first
    | exact po_int (h w4 (hD.s h4) h4.C) (by unfold beginsS; rw [if_pos hor, hjx, hix, k1.1]; exact (nvI_dyI k1.2).symm)
    | exact po_int (h w4 (hD.s h4) h4.C) (by unfold beginsS; rw [if_neg c_7])
  · have hor := c_7
    obtain ⟨be, en, hk⟩ := hk4 c_7
    obtain ⟨j, i, hjg, hj6, hi, rfl, rfl, hjx, hix, hsB⟩ := ordS_ex ho c_7
    rw [hjx] at hk
    obtain ⟨k1, k2, k3⟩ := hk.get ho.k hj6 hi hsB
    refine a_aload_n hX dX8_begins_10 rfl ?_
    refine gf_X8_63 rfl hX dX8_begins_11 ?_
    refine a_iload_n hX dX8_begins_14 rfl ?_
    refine a_iald (i) hX rfl rfl (show _ < 12 by omega) dX8_begins_15 ?_
    refine a_goto 20 hX dX8_begins_16 (by decide) ?_
    refine a_iret hX hR dX8_begins_20 ⟨Nat.le_refl _, Nat.le_refl _⟩ rfl ?_
    first
    | exact po_int (h w4 (hD.s h4) h4.C) (by unfold beginsS; rw [if_pos hor, hjx, hix, k1.1]; exact (nvI_dyI k1.2).symm)
    | exact po_int (h w4 (hD.s h4) h4.C) (by unfold beginsS; rw [if_neg c_7])
abbrev T_X8_ends : Tr := fun lay av w Po => ∃ (g : Sg) (p l m : Int32), av = [.ref (lay 221), .int p, .int l, .int m] ∧ (MD g w) ∧ (okS g) ∧ ∀ w' : St, MD g w' → FrC w w' → Po (some (.int (endsS g p l m))) w'
set_option maxRecDepth 100000 in
set_option maxHeartbeats 4000000 in
theorem c_X8_ends : Ct yX8_ends cX8_ends 4 (some .int) 6 0 0 T_X8_ends := by
  refine Ct.mk (by decide +kernel) ?_
  intro X av w Po hX hR hT
  obtain ⟨g, p, l, m, rfl, hD, ho, h⟩ := hT
  refine ⟨rfl, ?_⟩
  show A X 0 0 0 [some (.ref (xlay X 221)), some (.int p), some (.int l), some (.int m)] [] w
  refine a_aload_n hX dX8_ends_0 rfl ?_
  refine a_iload_n hX dX8_ends_1 rfl ?_
  refine a_iload_n hX dX8_ends_2 rfl ?_
  refine a_iload_n hX dX8_ends_3 rfl ?_
  refine a_callV [_, _, _] hX c_X8_isOrder mi_X8_isOrder mv_X8_isOrder se_X8_isOrder (klt rfl (by decide)) (adr_lt (kd_lt rfl (by decide))) (cell_8 rfl) rfl li_X8_208 (by decide) rfl rfl (Nat.le_of_ble_eq_true rfl) (fun q => q) dX8_ends_4 ⟨_, _, _, _, rfl, hD, ho, ?_⟩
  intro w4 h4 hk4
  refine a_if_eq_b 19 hX dX8_ends_7 (by decide) (fun c_7 => ?_) (fun c_7 => ?_)
  · refine a_iconst (-1) hX dX8_ends_19 (by decide) ?_
    refine a_iret hX hR dX8_ends_20 ⟨Nat.le_refl _, Nat.le_refl _⟩ rfl ?_
    first
    | exact po_int (h w4 (hD.s h4) h4.C) (by unfold endsS; rw [if_pos hor, hjx, hix, k2.1]; exact (nvI_dyI k2.2).symm)
    | exact po_int (h w4 (hD.s h4) h4.C) (by unfold endsS; rw [if_neg c_7])
  · have hor := c_7
    obtain ⟨be, en, hk⟩ := hk4 c_7
    obtain ⟨j, i, hjg, hj6, hi, rfl, rfl, hjx, hix, hsB⟩ := ordS_ex ho c_7
    rw [hjx] at hk
    obtain ⟨k1, k2, k3⟩ := hk.get ho.k hj6 hi hsB
    refine a_aload_n hX dX8_ends_10 rfl ?_
    refine gf_X8_66 rfl hX dX8_ends_11 ?_
    refine a_iload_n hX dX8_ends_14 rfl ?_
    refine a_iald (i) hX rfl rfl (show _ < 12 by omega) dX8_ends_15 ?_
    refine a_goto 20 hX dX8_ends_16 (by decide) ?_
    refine a_iret hX hR dX8_ends_20 ⟨Nat.le_refl _, Nat.le_refl _⟩ rfl ?_
    first
    | exact po_int (h w4 (hD.s h4) h4.C) (by unfold endsS; rw [if_pos hor, hjx, hix, k2.1]; exact (nvI_dyI k2.2).symm)
    | exact po_int (h w4 (hD.s h4) h4.C) (by unfold endsS; rw [if_neg c_7])
abbrev T_X8_counted : Tr := fun lay av w Po => ∃ (g : Sg) (p l d m : Int32), av = [.ref (lay 221), .int p, .int l, .int d, .int m] ∧ (MD g w) ∧ (okS g) ∧ ∀ w' : St, MD g w' → FrC w w' → Po (some (.int (countedS g p l d m))) w'
set_option maxRecDepth 100000 in
set_option maxHeartbeats 4000000 in
theorem c_X8_counted : Ct yX8_counted cX8_counted 5 (some .int) 6 0 0 T_X8_counted := by
  refine Ct.mk (by decide +kernel) ?_
  intro X av w Po hX hR hT
  obtain ⟨g, p, l, d, m, rfl, hD, ho, h⟩ := hT
  refine ⟨rfl, ?_⟩
  show A X 0 0 0 [some (.ref (xlay X 221)), some (.int p), some (.int l), some (.int d), some (.int m)] [] w
  refine a_iload_n hX dX8_counted_0 rfl ?_
  refine a_callS [_] hX c_X8_isDay mi_X8_isDay ms_X8_isDay li_X8_163 (by decide) rfl rfl (Nat.le_of_ble_eq_true rfl) (fun q => q) dX8_counted_1 ⟨_, rfl, ?_⟩
  refine a_if_eq_b 33 hX dX8_counted_4 (by decide) (fun c_4 => ?_) (fun c_4 => ?_)
  · refine a_iconst (-1) hX dX8_counted_33 (by decide) ?_
    refine a_iret hX hR dX8_counted_34 ⟨Nat.le_refl _, Nat.le_refl _⟩ rfl ?_
    first
    | exact po_int (h w12 (hD.s h12) h12.C) (by unfold countedS; rw [if_pos ⟨c_4, hor⟩, hjx, hix, ix_nI (show x < 2 ^ 31 by omega), (k3 x hx).2.1])
    | exact po_int (h w hD FrC.rf) (by unfold countedS; rw [if_neg (fun z => c_4 z.1)])
    | exact po_int (h w12 (hD.s h12) h12.C) (by unfold countedS; rw [if_neg (fun z => c_15 z.2)])
  · refine a_aload_n hX dX8_counted_7 rfl ?_
    refine a_iload_n hX dX8_counted_8 rfl ?_
    refine a_iload_n hX dX8_counted_9 rfl ?_
    refine a_iload hX dX8_counted_10 rfl ?_
    refine a_callV [_, _, _] hX c_X8_isOrder mi_X8_isOrder mv_X8_isOrder se_X8_isOrder (klt rfl (by decide)) (adr_lt (kd_lt rfl (by decide))) (cell_8 rfl) rfl li_X8_208 (by decide) rfl rfl (Nat.le_of_ble_eq_true rfl) (fun q => q) dX8_counted_12 ⟨_, _, _, _, rfl, hD, ho, ?_⟩
    intro w12 h12 hk12
    refine a_if_eq_b 33 hX dX8_counted_15 (by decide) (fun c_15 => ?_) (fun c_15 => ?_)
    · refine a_iconst (-1) hX dX8_counted_33 (by decide) ?_
      refine a_iret hX hR dX8_counted_34 ⟨Nat.le_refl _, Nat.le_refl _⟩ rfl ?_
      first
      | exact po_int (h w12 (hD.s h12) h12.C) (by unfold countedS; rw [if_pos ⟨c_4, hor⟩, hjx, hix, ix_nI (show x < 2 ^ 31 by omega), (k3 x hx).2.1])
      | exact po_int (h w hD FrC.rf) (by unfold countedS; rw [if_neg (fun z => c_4 z.1)])
      | exact po_int (h w12 (hD.s h12) h12.C) (by unfold countedS; rw [if_neg (fun z => c_15 z.2)])
    · have hor := c_15
      obtain ⟨be, en, hk⟩ := hk12 c_15
      obtain ⟨j, i, hjg, hj6, hi, rfl, rfl, hjx, hix, hsB⟩ := ordS_ex ho c_15
      rw [hjx] at hk
      obtain ⟨k1, k2, k3⟩ := hk.get ho.k hj6 hi hsB
      obtain ⟨x, hx, rfl⟩ := isD_ex c_4
      refine a_aload_n hX dX8_counted_18 rfl ?_
      refine gf_X8_73 rfl hX dX8_counted_19 ?_
      refine a_sipush (3600) hX dX8_counted_22 (by decide) ?_
      refine a_iload_n hX dX8_counted_25 rfl ?_
      refine a_imul hX dX8_counted_26 ?_
      refine a_iload_n hX dX8_counted_27 rfl ?_
      refine a_iadd hX dX8_counted_28 ?_
      rw [n3600]
      refine a_iald (3600 * i + x) hX rfl rfl (show _ < 43200 by omega) dX8_counted_29 ?_
      refine a_goto 34 hX dX8_counted_30 (by decide) ?_
      refine a_iret hX hR dX8_counted_34 ⟨Nat.le_refl _, Nat.le_refl _⟩ rfl ?_
      first
      | exact po_int (h w12 (hD.s h12) h12.C) (by unfold countedS; rw [if_pos ⟨c_4, hor⟩, hjx, hix, ix_nI (show x < 2 ^ 31 by omega), (k3 x hx).2.1])
      | exact po_int (h w hD FrC.rf) (by unfold countedS; rw [if_neg (fun z => c_4 z.1)])
      | exact po_int (h w12 (hD.s h12) h12.C) (by unfold countedS; rw [if_neg (fun z => c_15 z.2)])
abbrev T_X8_taken : Tr := fun lay av w Po => ∃ (g : Sg) (p l d : Int32), av = [.ref (lay 221), .int p, .int l, .int d] ∧ (MD g w) ∧ (okS g) ∧ ∀ w' : St, MD g w' → FrC w w' → Po (some (.int (takenS g p l d))) w'
set_option maxRecDepth 100000 in
set_option maxHeartbeats 4000000 in
theorem c_X8_taken : Ct yX8_taken cX8_taken 4 (some .int) 6 0 0 T_X8_taken := by
  refine Ct.mk (by decide +kernel) ?_
  intro X av w Po hX hR hT
  obtain ⟨g, p, l, d, rfl, hD, ho, h⟩ := hT
  refine ⟨rfl, ?_⟩
  show A X 0 0 0 [some (.ref (xlay X 221)), some (.int p), some (.int l), some (.int d)] [] w
  refine a_iload_n hX dX8_taken_0 rfl ?_
  refine a_callS [_] hX c_X8_isDay mi_X8_isDay ms_X8_isDay li_X8_163 (by decide) rfl rfl (Nat.le_of_ble_eq_true rfl) (fun q => q) dX8_taken_1 ⟨_, rfl, ?_⟩
  refine a_if_eq_b 32 hX dX8_taken_4 (by decide) (fun c_4 => ?_) (fun c_4 => ?_)
  · refine a_iconst (-1) hX dX8_taken_32 (by decide) ?_
    refine a_iret hX hR dX8_taken_33 ⟨Nat.le_refl _, Nat.le_refl _⟩ rfl ?_
    first
    | exact po_int (h w11 (hD.s h11) h11.C) (by unfold takenS; rw [if_pos ⟨c_4, hor⟩, hjx, hix, ix_nI (show x < 2 ^ 31 by omega), (k3 x hx).2.2])
    | exact po_int (h w hD FrC.rf) (by unfold takenS; rw [if_neg (fun z => c_4 z.1)])
    | exact po_int (h w11 (hD.s h11) h11.C) (by unfold takenS; rw [if_neg (fun z => c_14 z.2)])
  · refine a_aload_n hX dX8_taken_7 rfl ?_
    refine a_iload_n hX dX8_taken_8 rfl ?_
    refine a_iload_n hX dX8_taken_9 rfl ?_
    refine a_iconst (0) hX dX8_taken_10 (by decide) ?_
    refine a_callV [_, _, _] hX c_X8_isOrder mi_X8_isOrder mv_X8_isOrder se_X8_isOrder (klt rfl (by decide)) (adr_lt (kd_lt rfl (by decide))) (cell_8 rfl) rfl li_X8_208 (by decide) rfl rfl (Nat.le_of_ble_eq_true rfl) (fun q => q) dX8_taken_11 ⟨_, _, _, _, rfl, hD, ho, ?_⟩
    intro w11 h11 hk11
    refine a_if_eq_b 32 hX dX8_taken_14 (by decide) (fun c_14 => ?_) (fun c_14 => ?_)
    · refine a_iconst (-1) hX dX8_taken_32 (by decide) ?_
      refine a_iret hX hR dX8_taken_33 ⟨Nat.le_refl _, Nat.le_refl _⟩ rfl ?_
      first
      | exact po_int (h w11 (hD.s h11) h11.C) (by unfold takenS; rw [if_pos ⟨c_4, hor⟩, hjx, hix, ix_nI (show x < 2 ^ 31 by omega), (k3 x hx).2.2])
      | exact po_int (h w hD FrC.rf) (by unfold takenS; rw [if_neg (fun z => c_4 z.1)])
      | exact po_int (h w11 (hD.s h11) h11.C) (by unfold takenS; rw [if_neg (fun z => c_14 z.2)])
    · have hor := c_14
      obtain ⟨be, en, hk⟩ := hk11 c_14
      obtain ⟨j, i, hjg, hj6, hi, rfl, rfl, hjx, hix, hsB⟩ := ordS_ex ho c_14
      rw [hjx] at hk
      obtain ⟨k1, k2, k3⟩ := hk.get ho.k hj6 hi hsB
      obtain ⟨x, hx, rfl⟩ := isD_ex c_4
      refine a_aload_n hX dX8_taken_17 rfl ?_
      refine gf_X8_76 rfl hX dX8_taken_18 ?_
      refine a_sipush (3600) hX dX8_taken_21 (by decide) ?_
      refine a_iload_n hX dX8_taken_24 rfl ?_
      refine a_imul hX dX8_taken_25 ?_
      refine a_iload_n hX dX8_taken_26 rfl ?_
      refine a_iadd hX dX8_taken_27 ?_
      rw [n3600]
      refine a_iald (3600 * i + x) hX rfl rfl (show _ < 43200 by omega) dX8_taken_28 ?_
      refine a_goto 33 hX dX8_taken_29 (by decide) ?_
      refine a_iret hX hR dX8_taken_33 ⟨Nat.le_refl _, Nat.le_refl _⟩ rfl ?_
      first
      | exact po_int (h w11 (hD.s h11) h11.C) (by unfold takenS; rw [if_pos ⟨c_4, hor⟩, hjx, hix, ix_nI (show x < 2 ^ 31 by omega), (k3 x hx).2.2])
      | exact po_int (h w hD FrC.rf) (by unfold takenS; rw [if_neg (fun z => c_4 z.1)])
      | exact po_int (h w11 (hD.s h11) h11.C) (by unfold takenS; rw [if_neg (fun z => c_14 z.2)])
abbrev T_X8_why : Tr := fun lay av w Po => ∃ (g : Sg) (p l d : Int32), av = [.ref (lay 221), .int p, .int l, .int d] ∧ (MD g w) ∧ (okS g) ∧ ∀ w' : St, MD g w' → FrC w w' → (whyS g p l d ≠ -1 → MP w' (RSk g) (ix p)) → Po (some (.int (whyS g p l d))) w'
set_option maxRecDepth 100000 in
set_option maxHeartbeats 4000000 in
theorem c_X8_why : Ct yX8_why cX8_why 4 (some .int) 5 0 0 T_X8_why := by
  refine Ct.mk (by decide +kernel) ?_
  intro X av w Po hX hR hT
  obtain ⟨g, p, l, d, rfl, hD, ho, h⟩ := hT
  refine ⟨rfl, ?_⟩
  show A X 0 0 0 [some (.ref (xlay X 221)), some (.int p), some (.int l), some (.int d)] [] w
  refine a_iload_n hX dX8_why_0 rfl ?_
  refine a_callS [_] hX c_X8_isDay mi_X8_isDay ms_X8_isDay li_X8_163 (by decide) rfl rfl (Nat.le_of_ble_eq_true rfl) (fun q => q) dX8_why_1 ⟨_, rfl, ?_⟩
  refine a_if_eq_b 16 hX dX8_why_4 (by decide) (fun c_4 => ?_) (fun c_4 => ?_)
  · refine a_iconst (-1) hX dX8_why_16 (by decide) ?_
    refine a_iret hX hR dX8_why_17 ⟨Nat.le_refl _, Nat.le_refl _⟩ rfl ?_
    first | exact po_int (h w hD FrC.rf (fun z => absurd (whyS_1 (fun y => c_4 y.2)) z)) (whyS_1 (fun y => c_4 y.2)) | exact po_int (h w10 hDX h10.C (fun z => absurd (whyS_1 (fun y => c_13 y.1)) z)) (whyS_1 (fun y => c_13 y.1))
  · refine a_aload_n hX dX8_why_7 rfl ?_
    refine a_iload_n hX dX8_why_8 rfl ?_
    refine a_iload_n hX dX8_why_9 rfl ?_
    refine a_callV [_, _] hX c_X8_isThere mi_X8_isThere mv_X8_isThere se_X8_isThere (klt rfl (by decide)) (adr_lt (kd_lt rfl (by decide))) (cell_8 rfl) rfl li_X8_205 (by decide) rfl rfl (Nat.le_of_ble_eq_true rfl) (fun q => q) dX8_why_10 ⟨_, _, _, rfl, hD, ho, ?_⟩
    intro w10 h10 hm10
    have hDX := hD.s h10
    refine a_if_ne_b 18 hX dX8_why_13 (by decide) (fun c_13 => ?_) (fun c_13 => ?_)
    · have hm := hm10 c_13
      have hipl := c_13
      have hid := c_4
      obtain ⟨j, hjg, hj6, rfl⟩ := isP_ex ho c_13.1
      obtain ⟨i, hi, rfl⟩ := isL_ex c_13.2
      obtain ⟨x, hx, rfl⟩ := isD_ex c_4
      have hjx : ix (nI j) = j := ix_nI (by omega)
      have hix : ix (nI i) = i := ix_nI (by omega)
      have hxx : ix (nI x) = x := ix_nI (by omega)
      rw [hjx] at hm
      obtain ⟨m0, m5, -⟩ := hm.1.pl hi
      have hp0 : pl (RSk g) (nI j) (nI i) 0 = w10.1 224 i := by unfold pl; rw [m0, hjx, hix]
      have hp5 : pl (RSk g) (nI j) (nI i) 5 = w10.1 232 i := by unfold pl; rw [m5, hjx, hix]
      have hda := ho.da
      have ht3 := ho.1.2.2
      refine a_aload_n hX dX8_why_18 rfl ?_
      refine a_iload_n hX dX8_why_19 rfl ?_
      refine a_callV [_] hX c_X8_runs mi_X8_runs mv_X8_runs se_X8_runs (klt rfl (by decide)) (adr_lt (kd_lt rfl (by decide))) (cell_8 rfl) rfl li_X8_117 (by decide) rfl rfl (Nat.le_of_ble_eq_true rfl) (fun q => q) dX8_why_20 ⟨_, rfl, hi, ?_⟩
      refine a_if_ne_b 29 hX dX8_why_23 (by decide) (fun c_23 => ?_) (fun c_23 => ?_)
      · have hr : 2 ≤ pl (RSk g) (nI j) (nI i) 0 ∧ pl (RSk g) (nI j) (nI i) 0 ≤ 5 := by rw [hp0]; exact c_23
        refine a_aload_n hX dX8_why_29 rfl ?_
        refine gf_X8_44 rfl hX dX8_why_30 ?_
        refine a_iload_n hX dX8_why_33 rfl ?_
        refine a_iald (i) hX rfl rfl (show _ < 12 by omega) dX8_why_34 ?_
        refine a_iconst (-1) hX dX8_why_35 (by decide) ?_
        refine a_icmp_eq 42 hX dX8_why_36 (by decide) (fun c_36 => ?_) (fun c_36 => ?_)
        · have hq : pl (RSk g) (nI j) (nI i) 5 = -1 := by rw [hp5]; exact c_36
          have hsB : stB ((RSk g).1 j) i = true := (stB_cell hm.1 hi).mp ⟨by rw [← hp0]; exact hr, c_36⟩
          have hvv := (ho.k.1 j hj6).1
          refine a_aload_n hX dX8_why_42 rfl ?_
          refine a_iload_n hX dX8_why_43 rfl ?_
          refine a_aload_n hX dX8_why_44 rfl ?_
          refine a_callV [] hX c_X8_known mi_X8_known mv_X8_known se_X8_known (klt rfl (by decide)) (adr_lt (kd_lt rfl (by decide))) (cell_8 rfl) rfl li_X8_202 (by decide) rfl rfl (Nat.le_of_ble_eq_true rfl) (fun q => q) dX8_why_45 ⟨_, rfl, hDX, ho, ?_⟩
          refine a_iconst (0) hX dX8_why_48 (by decide) ?_
          refine a_callV [_, _, _] hX c_X8_reckon mi_X8_reckon mv_X8_reckon se_X8_reckon (klt rfl (by decide)) (adr_lt (kd_lt rfl (by decide))) (cell_8 rfl) rfl li_X8_192 (by decide) rfl rfl (Nat.le_of_ble_eq_true rfl) (fun q => q) dX8_why_49 ⟨g, _, _, _, rfl, hDX, ho, hj6, (by omega), ?_⟩
          intro w49 be en h49 hk49
          have hk49 : MK w49 (RSk g) j 0 be en := hk49
          have h1049 := h10.tr h49
          obtain ⟨⟨b1, b2⟩, ⟨e1, e2⟩, k3⟩ := hk49.get ho.k hj6 hi hsB
          have hE := nvI_m1 e2
          have hB := nvI_m1 b2
          have hu : whyS g (nI j) (nI i) (nI x) = if eeN (RSk g) j 0 i < x then 3 else if hsN ((RSk g).1 j) 6 i x 12 ≠ -1 then 4 else if hsN ((RSk g).1 j) 7 i x 12 ≠ -1 then 1 else if x < beN (RSk g) j 0 i then 2 else if hdN (RSk g) j 0 x = true then 0 else 5 := by
            unfold whyS
            rw [if_neg (not_not_intro ⟨hipl, hid⟩), if_neg (not_not_intro hr), if_neg (not_not_intro hq), hjx, hix, hxx]
          refine a_aload_n hX dX8_why_52 rfl ?_
          refine gf_X8_66 rfl hX dX8_why_53 ?_
          refine a_iload_n hX dX8_why_56 rfl ?_
          refine a_iald (i) hX rfl rfl (show _ < 12 by omega) dX8_why_57 ?_
          rw [e1]
          refine a_iconst (-1) hX dX8_why_58 (by decide) ?_
          refine a_icmp_eq 74 hX dX8_why_59 (by decide) (fun c_59 => ?_) (fun c_59 => ?_)
          · have n3 : ¬ eeN (RSk g) j 0 i < x := by
              unfold bdN at e2
              first
              | (have := hE.mp c_59
                 omega)
              | (rw [nvI_lt (fun z => c_59 (hE.mpr z))] at c_69
                 have := (nI_leI (by omega) (by omega)).mp c_69
                 omega)
            refine a_aload_n hX dX8_why_74 rfl ?_
            refine a_bipush (6) hX dX8_why_75 (by decide) ?_
            refine a_iload_n hX dX8_why_77 rfl ?_
            refine a_iload_n hX dX8_why_78 rfl ?_
            refine a_callV [_, _, _] hX c_X8_has mi_X8_has mv_X8_has se_X8_has (klt rfl (by decide)) (adr_lt (kd_lt rfl (by decide))) (cell_8 rfl) rfl li_X8_132 (by decide) rfl rfl (Nat.le_of_ble_eq_true rfl) (fun q => q) dX8_why_79 ⟨((RSk g).1 j), _, _, _, rfl, hk49.1.1, hvv, hi, hx, (Or.inl rfl), ?_⟩
            refine a_iconst (-1) hX dX8_why_82 (by decide) ?_
            refine a_icmp_eq 88 hX dX8_why_83 (by decide) (fun c_83 => ?_) (fun c_83 => ?_)
            · refine a_aload_n hX dX8_why_88 rfl ?_
              refine a_bipush (7) hX dX8_why_89 (by decide) ?_
              refine a_iload_n hX dX8_why_91 rfl ?_
              refine a_iload_n hX dX8_why_92 rfl ?_
              refine a_callV [_, _, _] hX c_X8_has mi_X8_has mv_X8_has se_X8_has (klt rfl (by decide)) (adr_lt (kd_lt rfl (by decide))) (cell_8 rfl) rfl li_X8_132 (by decide) rfl rfl (Nat.le_of_ble_eq_true rfl) (fun q => q) dX8_why_93 ⟨((RSk g).1 j), _, _, _, rfl, hk49.1.1, hvv, hi, hx, (Or.inr rfl), ?_⟩
              refine a_iconst (-1) hX dX8_why_96 (by decide) ?_
              refine a_icmp_eq 102 hX dX8_why_97 (by decide) (fun c_97 => ?_) (fun c_97 => ?_)
              · refine a_aload_n hX dX8_why_102 rfl ?_
                refine gf_X8_63 rfl hX dX8_why_103 ?_
                refine a_iload_n hX dX8_why_106 rfl ?_
                refine a_iald (i) hX rfl rfl (show _ < 12 by omega) dX8_why_107 ?_
                rw [b1]
                refine a_iconst (-1) hX dX8_why_108 (by decide) ?_
                refine a_icmp_eq 122 hX dX8_why_109 (by decide) (fun c_109 => ?_) (fun c_109 => ?_)
                · refine a_iconst (2) hX dX8_why_122 (by decide) ?_
                  refine a_iret hX hR dX8_why_123 ⟨Nat.le_refl _, Nat.le_refl _⟩ rfl ?_
                  have n2 : x < beN (RSk g) j 0 i := by
                    unfold bdN at b2
                    first
                    | (have := hB.mp c_109
                       omega)
                    | (rw [nvI_lt (fun z => c_109 (hB.mpr z))] at c_119
                       have := (nI_ltI (by omega) (by omega)).mp (lt_nle c_119)
                       omega)
                  exact po_int (h w49 (hD.s h1049) h1049.C (fun _ => by rw [hjx]; exact hk49.1)) (by rw [hu]; rw [if_neg n3, if_neg (not_not_intro c_83), if_neg (not_not_intro c_97), if_pos n2])
                · refine a_aload_n hX dX8_why_112 rfl ?_
                  refine gf_X8_63 rfl hX dX8_why_113 ?_
                  refine a_iload_n hX dX8_why_116 rfl ?_
                  refine a_iald (i) hX rfl rfl (show _ < 12 by omega) dX8_why_117 ?_
                  rw [b1]
                  refine a_iload_n hX dX8_why_118 rfl ?_
                  refine a_icmp_le 124 hX dX8_why_119 (by decide) (fun c_119 => ?_) (fun c_119 => ?_)
                  · have n2 : ¬ x < beN (RSk g) j 0 i := by
                      unfold bdN at b2
                      rw [nvI_lt (fun z => c_109 (hB.mpr z))] at c_119
                      have := (nI_leI (by omega) (by omega)).mp c_119
                      omega
                    refine a_aload_n hX dX8_why_124 rfl ?_
                    refine a_iload_n hX dX8_why_125 rfl ?_
                    refine a_iload_n hX dX8_why_126 rfl ?_
                    refine a_iconst (0) hX dX8_why_127 (by decide) ?_
                    refine a_callV [_, _, _] hX c_X8_isHeld mi_X8_isHeld mv_X8_isHeld se_X8_isHeld (klt rfl (by decide)) (adr_lt (kd_lt rfl (by decide))) (cell_8 rfl) rfl li_X8_136 (by decide) rfl rfl (Nat.le_of_ble_eq_true rfl) (fun q => q) dX8_why_128 ⟨(RSk g), _, _, _, rfl, hk49.1, ho.k, hj6, hx, ?_⟩
                    refine a_if_eq_b 138 hX dX8_why_131 (by decide) (fun c_131 => ?_) (fun c_131 => ?_)
                    · refine a_iconst (5) hX dX8_why_138 (by decide) ?_
                      refine a_iret hX hR dX8_why_139 ⟨Nat.le_refl _, Nat.le_refl _⟩ rfl ?_
                      exact po_int (h w49 (hD.s h1049) h1049.C (fun _ => by rw [hjx]; exact hk49.1)) (by rw [hu]; rw [if_neg n3, if_neg (not_not_intro c_83), if_neg (not_not_intro c_97), if_neg n2]; first | rw [if_pos c_131] | rw [if_neg c_131])
                    · refine a_iconst (0) hX dX8_why_134 (by decide) ?_
                      refine a_goto 139 hX dX8_why_135 (by decide) ?_
                      refine a_iret hX hR dX8_why_139 ⟨Nat.le_refl _, Nat.le_refl _⟩ rfl ?_
                      exact po_int (h w49 (hD.s h1049) h1049.C (fun _ => by rw [hjx]; exact hk49.1)) (by rw [hu]; rw [if_neg n3, if_neg (not_not_intro c_83), if_neg (not_not_intro c_97), if_neg n2]; first | rw [if_pos c_131] | rw [if_neg c_131])
                  · refine a_iconst (2) hX dX8_why_122 (by decide) ?_
                    refine a_iret hX hR dX8_why_123 ⟨Nat.le_refl _, Nat.le_refl _⟩ rfl ?_
                    have n2 : x < beN (RSk g) j 0 i := by
                      unfold bdN at b2
                      first
                      | (have := hB.mp c_109
                         omega)
                      | (rw [nvI_lt (fun z => c_109 (hB.mpr z))] at c_119
                         have := (nI_ltI (by omega) (by omega)).mp (lt_nle c_119)
                         omega)
                    exact po_int (h w49 (hD.s h1049) h1049.C (fun _ => by rw [hjx]; exact hk49.1)) (by rw [hu]; rw [if_neg n3, if_neg (not_not_intro c_83), if_neg (not_not_intro c_97), if_pos n2])
              · refine a_iconst (1) hX dX8_why_100 (by decide) ?_
                refine a_iret hX hR dX8_why_101 ⟨Nat.le_refl _, Nat.le_refl _⟩ rfl ?_
                exact po_int (h w49 (hD.s h1049) h1049.C (fun _ => by rw [hjx]; exact hk49.1)) (by rw [hu]; rw [if_neg n3, if_neg (not_not_intro c_83), if_pos c_97])
            · refine a_iconst (4) hX dX8_why_86 (by decide) ?_
              refine a_iret hX hR dX8_why_87 ⟨Nat.le_refl _, Nat.le_refl _⟩ rfl ?_
              exact po_int (h w49 (hD.s h1049) h1049.C (fun _ => by rw [hjx]; exact hk49.1)) (by rw [hu]; rw [if_neg n3, if_pos c_83])
          · refine a_aload_n hX dX8_why_62 rfl ?_
            refine gf_X8_66 rfl hX dX8_why_63 ?_
            refine a_iload_n hX dX8_why_66 rfl ?_
            refine a_iald (i) hX rfl rfl (show _ < 12 by omega) dX8_why_67 ?_
            rw [e1]
            refine a_iload_n hX dX8_why_68 rfl ?_
            refine a_icmp_ge 74 hX dX8_why_69 (by decide) (fun c_69 => ?_) (fun c_69 => ?_)
            · have n3 : ¬ eeN (RSk g) j 0 i < x := by
                unfold bdN at e2
                first
                | (have := hE.mp c_59
                   omega)
                | (rw [nvI_lt (fun z => c_59 (hE.mpr z))] at c_69
                   have := (nI_leI (by omega) (by omega)).mp c_69
                   omega)
              refine a_aload_n hX dX8_why_74 rfl ?_
              refine a_bipush (6) hX dX8_why_75 (by decide) ?_
              refine a_iload_n hX dX8_why_77 rfl ?_
              refine a_iload_n hX dX8_why_78 rfl ?_
              refine a_callV [_, _, _] hX c_X8_has mi_X8_has mv_X8_has se_X8_has (klt rfl (by decide)) (adr_lt (kd_lt rfl (by decide))) (cell_8 rfl) rfl li_X8_132 (by decide) rfl rfl (Nat.le_of_ble_eq_true rfl) (fun q => q) dX8_why_79 ⟨((RSk g).1 j), _, _, _, rfl, hk49.1.1, hvv, hi, hx, (Or.inl rfl), ?_⟩
              refine a_iconst (-1) hX dX8_why_82 (by decide) ?_
              refine a_icmp_eq 88 hX dX8_why_83 (by decide) (fun c_83 => ?_) (fun c_83 => ?_)
              · refine a_aload_n hX dX8_why_88 rfl ?_
                refine a_bipush (7) hX dX8_why_89 (by decide) ?_
                refine a_iload_n hX dX8_why_91 rfl ?_
                refine a_iload_n hX dX8_why_92 rfl ?_
                refine a_callV [_, _, _] hX c_X8_has mi_X8_has mv_X8_has se_X8_has (klt rfl (by decide)) (adr_lt (kd_lt rfl (by decide))) (cell_8 rfl) rfl li_X8_132 (by decide) rfl rfl (Nat.le_of_ble_eq_true rfl) (fun q => q) dX8_why_93 ⟨((RSk g).1 j), _, _, _, rfl, hk49.1.1, hvv, hi, hx, (Or.inr rfl), ?_⟩
                refine a_iconst (-1) hX dX8_why_96 (by decide) ?_
                refine a_icmp_eq 102 hX dX8_why_97 (by decide) (fun c_97 => ?_) (fun c_97 => ?_)
                · refine a_aload_n hX dX8_why_102 rfl ?_
                  refine gf_X8_63 rfl hX dX8_why_103 ?_
                  refine a_iload_n hX dX8_why_106 rfl ?_
                  refine a_iald (i) hX rfl rfl (show _ < 12 by omega) dX8_why_107 ?_
                  rw [b1]
                  refine a_iconst (-1) hX dX8_why_108 (by decide) ?_
                  refine a_icmp_eq 122 hX dX8_why_109 (by decide) (fun c_109 => ?_) (fun c_109 => ?_)
                  · refine a_iconst (2) hX dX8_why_122 (by decide) ?_
                    refine a_iret hX hR dX8_why_123 ⟨Nat.le_refl _, Nat.le_refl _⟩ rfl ?_
                    have n2 : x < beN (RSk g) j 0 i := by
                      unfold bdN at b2
                      first
                      | (have := hB.mp c_109
                         omega)
                      | (rw [nvI_lt (fun z => c_109 (hB.mpr z))] at c_119
                         have := (nI_ltI (by omega) (by omega)).mp (lt_nle c_119)
                         omega)
                    exact po_int (h w49 (hD.s h1049) h1049.C (fun _ => by rw [hjx]; exact hk49.1)) (by rw [hu]; rw [if_neg n3, if_neg (not_not_intro c_83), if_neg (not_not_intro c_97), if_pos n2])
                  · refine a_aload_n hX dX8_why_112 rfl ?_
                    refine gf_X8_63 rfl hX dX8_why_113 ?_
                    refine a_iload_n hX dX8_why_116 rfl ?_
                    refine a_iald (i) hX rfl rfl (show _ < 12 by omega) dX8_why_117 ?_
                    rw [b1]
                    refine a_iload_n hX dX8_why_118 rfl ?_
                    refine a_icmp_le 124 hX dX8_why_119 (by decide) (fun c_119 => ?_) (fun c_119 => ?_)
                    · have n2 : ¬ x < beN (RSk g) j 0 i := by
                        unfold bdN at b2
                        rw [nvI_lt (fun z => c_109 (hB.mpr z))] at c_119
                        have := (nI_leI (by omega) (by omega)).mp c_119
                        omega
                      refine a_aload_n hX dX8_why_124 rfl ?_
                      refine a_iload_n hX dX8_why_125 rfl ?_
                      refine a_iload_n hX dX8_why_126 rfl ?_
                      refine a_iconst (0) hX dX8_why_127 (by decide) ?_
                      refine a_callV [_, _, _] hX c_X8_isHeld mi_X8_isHeld mv_X8_isHeld se_X8_isHeld (klt rfl (by decide)) (adr_lt (kd_lt rfl (by decide))) (cell_8 rfl) rfl li_X8_136 (by decide) rfl rfl (Nat.le_of_ble_eq_true rfl) (fun q => q) dX8_why_128 ⟨(RSk g), _, _, _, rfl, hk49.1, ho.k, hj6, hx, ?_⟩
                      refine a_if_eq_b 138 hX dX8_why_131 (by decide) (fun c_131 => ?_) (fun c_131 => ?_)
                      · refine a_iconst (5) hX dX8_why_138 (by decide) ?_
                        refine a_iret hX hR dX8_why_139 ⟨Nat.le_refl _, Nat.le_refl _⟩ rfl ?_
                        exact po_int (h w49 (hD.s h1049) h1049.C (fun _ => by rw [hjx]; exact hk49.1)) (by rw [hu]; rw [if_neg n3, if_neg (not_not_intro c_83), if_neg (not_not_intro c_97), if_neg n2]; first | rw [if_pos c_131] | rw [if_neg c_131])
                      · refine a_iconst (0) hX dX8_why_134 (by decide) ?_
                        refine a_goto 139 hX dX8_why_135 (by decide) ?_
                        refine a_iret hX hR dX8_why_139 ⟨Nat.le_refl _, Nat.le_refl _⟩ rfl ?_
                        exact po_int (h w49 (hD.s h1049) h1049.C (fun _ => by rw [hjx]; exact hk49.1)) (by rw [hu]; rw [if_neg n3, if_neg (not_not_intro c_83), if_neg (not_not_intro c_97), if_neg n2]; first | rw [if_pos c_131] | rw [if_neg c_131])
                    · refine a_iconst (2) hX dX8_why_122 (by decide) ?_
                      refine a_iret hX hR dX8_why_123 ⟨Nat.le_refl _, Nat.le_refl _⟩ rfl ?_
                      have n2 : x < beN (RSk g) j 0 i := by
                        unfold bdN at b2
                        first
                        | (have := hB.mp c_109
                           omega)
                        | (rw [nvI_lt (fun z => c_109 (hB.mpr z))] at c_119
                           have := (nI_ltI (by omega) (by omega)).mp (lt_nle c_119)
                           omega)
                      exact po_int (h w49 (hD.s h1049) h1049.C (fun _ => by rw [hjx]; exact hk49.1)) (by rw [hu]; rw [if_neg n3, if_neg (not_not_intro c_83), if_neg (not_not_intro c_97), if_pos n2])
                · refine a_iconst (1) hX dX8_why_100 (by decide) ?_
                  refine a_iret hX hR dX8_why_101 ⟨Nat.le_refl _, Nat.le_refl _⟩ rfl ?_
                  exact po_int (h w49 (hD.s h1049) h1049.C (fun _ => by rw [hjx]; exact hk49.1)) (by rw [hu]; rw [if_neg n3, if_neg (not_not_intro c_83), if_pos c_97])
              · refine a_iconst (4) hX dX8_why_86 (by decide) ?_
                refine a_iret hX hR dX8_why_87 ⟨Nat.le_refl _, Nat.le_refl _⟩ rfl ?_
                exact po_int (h w49 (hD.s h1049) h1049.C (fun _ => by rw [hjx]; exact hk49.1)) (by rw [hu]; rw [if_neg n3, if_pos c_83])
            · refine a_iconst (3) hX dX8_why_72 (by decide) ?_
              refine a_iret hX hR dX8_why_73 ⟨Nat.le_refl _, Nat.le_refl _⟩ rfl ?_
              exact po_int (h w49 (hD.s h1049) h1049.C (fun _ => by rw [hjx]; exact hk49.1)) (by rw [hu]; rw [nvI_lt (fun z => c_59 (hE.mpr z))] at c_69; unfold bdN at e2; rw [if_pos ((nI_ltI (by omega) (by omega)).mp (lt_nle c_69))])
        · refine a_bipush (6) hX dX8_why_39 (by decide) ?_
          refine a_iret hX hR dX8_why_41 ⟨Nat.le_refl _, Nat.le_refl _⟩ rfl ?_
          exact po_int (h w10 hDX h10.C (fun _ => by rw [hjx]; exact hm)) (by unfold whyS; rw [if_neg (not_not_intro ⟨hipl, hid⟩), if_neg (not_not_intro hr), if_pos (by rw [hp5]; exact c_36)])
      · refine a_bipush (7) hX dX8_why_26 (by decide) ?_
        refine a_iret hX hR dX8_why_28 ⟨Nat.le_refl _, Nat.le_refl _⟩ rfl ?_
        exact po_int (h w10 hDX h10.C (fun _ => by rw [hjx]; exact hm)) (by unfold whyS; rw [if_neg (not_not_intro ⟨hipl, hid⟩), if_pos (by rw [hp0]; exact c_23)])
    · refine a_iconst (-1) hX dX8_why_16 (by decide) ?_
      refine a_iret hX hR dX8_why_17 ⟨Nat.le_refl _, Nat.le_refl _⟩ rfl ?_
      first | exact po_int (h w hD FrC.rf (fun z => absurd (whyS_1 (fun y => c_4 y.2)) z)) (whyS_1 (fun y => c_4 y.2)) | exact po_int (h w10 hDX h10.C (fun z => absurd (whyS_1 (fun y => c_13 y.1)) z)) (whyS_1 (fun y => c_13 y.1))
abbrev T_X8_by : Tr := fun lay av w Po => ∃ (g : Sg) (p l d : Int32), av = [.ref (lay 221), .int p, .int l, .int d] ∧ (MD g w) ∧ (okS g) ∧ ∀ w' : St, MD g w' → FrC w w' → Po (some (.int (byS g p l d))) w'
set_option maxRecDepth 100000 in
set_option maxHeartbeats 4000000 in
theorem c_X8_by : Ct yX8_by cX8_by 5 (some .int) 6 0 0 T_X8_by := by
  refine Ct.mk (by decide +kernel) ?_
  intro X av w Po hX hR hT
  obtain ⟨g, p, l, d, rfl, hD, ho, h⟩ := hT
  refine ⟨rfl, ?_⟩
  show A X 0 0 0 [some (.ref (xlay X 221)), some (.int p), some (.int l), some (.int d), none] [] w
  refine a_aload_n hX dX8_by_0 rfl ?_
  refine a_iload_n hX dX8_by_1 rfl ?_
  refine a_iload_n hX dX8_by_2 rfl ?_
  refine a_iload_n hX dX8_by_3 rfl ?_
  refine a_callV [_, _, _] hX c_X8_why mi_X8_why mv_X8_why se_X8_why (klt rfl (by decide)) (adr_lt (kd_lt rfl (by decide))) (cell_8 rfl) rfl li_X8_211 (by decide) rfl rfl (Nat.le_of_ble_eq_true rfl) (fun q => q) dX8_by_4 ⟨_, _, _, _, rfl, hD, ho, ?_⟩
  intro w4 hD4 hm4 hp4
  refine a_istore (ls' := [_, _, _, _, _]) hX dX8_by_7 (Nat.le_of_ble_eq_true rfl) rfl ?_
  refine a_iload hX dX8_by_9 rfl ?_
  refine a_bipush (6) hX dX8_by_11 (by decide) ?_
  refine a_icmp_ne 23 hX dX8_by_13 (by decide) (fun c_13 => ?_) (fun c_13 => ?_)
  · refine a_iload hX dX8_by_23 rfl ?_
    refine a_iconst (4) hX dX8_by_25 (by decide) ?_
    refine a_icmp_ne 40 hX dX8_by_26 (by decide) (fun c_26 => ?_) (fun c_26 => ?_)
    · refine a_iload hX dX8_by_40 rfl ?_
      refine a_iconst (1) hX dX8_by_42 (by decide) ?_
      refine a_icmp_ne 57 hX dX8_by_43 (by decide) (fun c_43 => ?_) (fun c_43 => ?_)
      · refine a_iconst (-1) hX dX8_by_57 (by decide) ?_
        refine a_iret hX hR dX8_by_58 ⟨Nat.le_refl _, Nat.le_refl _⟩ rfl ?_
        first
        | exact po_int (h w4 hD4 hm4) (by unfold byS; rw [if_neg c_13, if_pos c_26, hjx, hix, ix_nI (show x < 2 ^ 31 by omega)])
        | exact po_int (h w4 hD4 hm4) (by unfold byS; rw [if_neg c_13, if_neg c_26, if_pos c_43, hjx, hix, ix_nI (show x < 2 ^ 31 by omega)])
        | exact po_int (h w4 hD4 hm4) (by unfold byS; rw [if_neg c_13, if_neg c_26, if_neg c_43])
      · have hin := whyS_in (g := g) (p := p) (l := l) (d := d) (by rw [c_43]; decide)
        have hM := hp4 (by rw [c_43]; decide)
        obtain ⟨j, hjg, hj6, rfl⟩ := isP_ex ho hin.1.1
        obtain ⟨i, hi, rfl⟩ := isL_ex hin.1.2
        have hjx : ix (nI j) = j := ix_nI (by omega)
        have hix : ix (nI i) = i := ix_nI (by omega)
        rw [hjx] at hM
        have hvv := (ho.k.1 j hj6).1
        obtain ⟨x, hx, rfl⟩ := isD_ex hin.2
        refine a_aload_n hX dX8_by_46 rfl ?_
        refine a_bipush (7) hX dX8_by_47 (by decide) ?_
        refine a_iload_n hX dX8_by_49 rfl ?_
        refine a_iload_n hX dX8_by_50 rfl ?_
        refine a_callV [_, _, _] hX c_X8_has mi_X8_has mv_X8_has se_X8_has (klt rfl (by decide)) (adr_lt (kd_lt rfl (by decide))) (cell_8 rfl) rfl li_X8_132 (by decide) rfl rfl (Nat.le_of_ble_eq_true rfl) (fun q => q) dX8_by_51 ⟨((RSk g).1 j), _, _, _, rfl, hM.1, hvv, hi, hx, (Or.inr rfl), ?_⟩
        refine a_goto 58 hX dX8_by_54 (by decide) ?_
        refine a_iret hX hR dX8_by_58 ⟨Nat.le_refl _, Nat.le_refl _⟩ rfl ?_
        first
        | exact po_int (h w4 hD4 hm4) (by unfold byS; rw [if_neg c_13, if_pos c_26, hjx, hix, ix_nI (show x < 2 ^ 31 by omega)])
        | exact po_int (h w4 hD4 hm4) (by unfold byS; rw [if_neg c_13, if_neg c_26, if_pos c_43, hjx, hix, ix_nI (show x < 2 ^ 31 by omega)])
        | exact po_int (h w4 hD4 hm4) (by unfold byS; rw [if_neg c_13, if_neg c_26, if_neg c_43])
    · have hin := whyS_in (g := g) (p := p) (l := l) (d := d) (by rw [c_26]; decide)
      have hM := hp4 (by rw [c_26]; decide)
      obtain ⟨j, hjg, hj6, rfl⟩ := isP_ex ho hin.1.1
      obtain ⟨i, hi, rfl⟩ := isL_ex hin.1.2
      have hjx : ix (nI j) = j := ix_nI (by omega)
      have hix : ix (nI i) = i := ix_nI (by omega)
      rw [hjx] at hM
      have hvv := (ho.k.1 j hj6).1
      obtain ⟨x, hx, rfl⟩ := isD_ex hin.2
      refine a_aload_n hX dX8_by_29 rfl ?_
      refine a_bipush (6) hX dX8_by_30 (by decide) ?_
      refine a_iload_n hX dX8_by_32 rfl ?_
      refine a_iload_n hX dX8_by_33 rfl ?_
      refine a_callV [_, _, _] hX c_X8_has mi_X8_has mv_X8_has se_X8_has (klt rfl (by decide)) (adr_lt (kd_lt rfl (by decide))) (cell_8 rfl) rfl li_X8_132 (by decide) rfl rfl (Nat.le_of_ble_eq_true rfl) (fun q => q) dX8_by_34 ⟨((RSk g).1 j), _, _, _, rfl, hM.1, hvv, hi, hx, (Or.inl rfl), ?_⟩
      refine a_goto 58 hX dX8_by_37 (by decide) ?_
      refine a_iret hX hR dX8_by_58 ⟨Nat.le_refl _, Nat.le_refl _⟩ rfl ?_
      first
      | exact po_int (h w4 hD4 hm4) (by unfold byS; rw [if_neg c_13, if_pos c_26, hjx, hix, ix_nI (show x < 2 ^ 31 by omega)])
      | exact po_int (h w4 hD4 hm4) (by unfold byS; rw [if_neg c_13, if_neg c_26, if_pos c_43, hjx, hix, ix_nI (show x < 2 ^ 31 by omega)])
      | exact po_int (h w4 hD4 hm4) (by unfold byS; rw [if_neg c_13, if_neg c_26, if_neg c_43])
  · have hin := whyS_in (g := g) (p := p) (l := l) (d := d) (by rw [c_13]; decide)
    have hM := hp4 (by rw [c_13]; decide)
    obtain ⟨j, hjg, hj6, rfl⟩ := isP_ex ho hin.1.1
    obtain ⟨i, hi, rfl⟩ := isL_ex hin.1.2
    have hjx : ix (nI j) = j := ix_nI (by omega)
    have hix : ix (nI i) = i := ix_nI (by omega)
    rw [hjx] at hM
    have hvv := (ho.k.1 j hj6).1
    refine a_aload_n hX dX8_by_16 rfl ?_
    refine gf_X8_44 rfl hX dX8_by_17 ?_
    refine a_iload_n hX dX8_by_20 rfl ?_
    refine a_iald (i) hX rfl rfl (show _ < 12 by omega) dX8_by_21 ?_
    refine a_iret hX hR dX8_by_22 ⟨Nat.le_refl _, Nat.le_refl _⟩ rfl ?_
    exact po_int (h w4 hD4 hm4) (by unfold byS; rw [if_pos c_13]; unfold pl; rw [hjx, hix]; exact ((hM.1.pl hi).2.1).symm)
abbrev T_X8_full : Tr := fun lay av w Po => ∃ (g : Sg) (p m : Int32), av = [.ref (lay 221), .int p, .int m] ∧ (MD g w) ∧ (okS g) ∧ ∀ w' : St, MD g w' → FrC w w' → Po (some (.int (fullS g p m))) w'
set_option maxRecDepth 100000 in
set_option maxHeartbeats 4000000 in
theorem c_X8_full : Ct yX8_full cX8_full 3 (some .int) 5 0 0 T_X8_full := by
  refine Ct.mk (by decide +kernel) ?_
  intro X av w Po hX hR hT
  obtain ⟨g, p, m, rfl, hD, ho, h⟩ := hT
  refine ⟨rfl, ?_⟩
  show A X 0 0 0 [some (.ref (xlay X 221)), some (.int p), some (.int m)] [] w
  refine a_aload_n hX dX8_full_0 rfl ?_
  refine a_iload_n hX dX8_full_1 rfl ?_
  refine a_callV [_] hX c_X8_isPerson mi_X8_isPerson mv_X8_isPerson se_X8_isPerson (klt rfl (by decide)) (adr_lt (kd_lt rfl (by decide))) (cell_8 rfl) rfl li_X8_150 (by decide) rfl rfl (Nat.le_of_ble_eq_true rfl) (fun q => q) dX8_full_2 ⟨_, rfl, ?_⟩
  rw [hD.1.2.2.1]
  refine a_if_ne_b 10 hX dX8_full_5 (by decide) (fun c_5 => ?_) (fun c_5 => ?_)
  · have hip := c_5
    obtain ⟨j, hjg, hj6, rfl⟩ := isP_ex ho c_5
    have hjx : ix (nI j) = j := ix_nI (by omega)
    have hDX := hD
    have hda := ho.da
    have ht3 := ho.1.2.2
    refine a_aload_n hX dX8_full_10 rfl ?_
    refine a_iload_n hX dX8_full_11 rfl ?_
    refine a_aload_n hX dX8_full_12 rfl ?_
    refine a_callV [] hX c_X8_known mi_X8_known mv_X8_known se_X8_known (klt rfl (by decide)) (adr_lt (kd_lt rfl (by decide))) (cell_8 rfl) rfl li_X8_202 (by decide) rfl rfl (Nat.le_of_ble_eq_true rfl) (fun q => q) dX8_full_13 ⟨_, rfl, hDX, ho, ?_⟩
    refine a_iload_n hX dX8_full_16 rfl ?_
    refine a_callV [_, _, _] hX c_X8_reckon mi_X8_reckon mv_X8_reckon se_X8_reckon (klt rfl (by decide)) (adr_lt (kd_lt rfl (by decide))) (cell_8 rfl) rfl li_X8_192 (by decide) rfl rfl (Nat.le_of_ble_eq_true rfl) (fun q => q) dX8_full_17 ⟨g, _, _, _, rfl, hDX, ho, hj6, (by omega), ?_⟩
    intro w17 be en h17 hk17
    have hk17 : MK w17 (RSk g) j m be en := hk17
    refine a_aload_n hX dX8_full_20 rfl ?_
    refine a_callV [] hX c_X8_fullNow mi_X8_fullNow mv_X8_fullNow se_X8_fullNow (klt rfl (by decide)) (adr_lt (kd_lt rfl (by decide))) (cell_8 rfl) rfl li_X8_198 (by decide) rfl rfl (Nat.le_of_ble_eq_true rfl) (fun q => q) dX8_full_21 ⟨RSk g, j, m, _, _, rfl, hk17, ho.k, hj6, ?_⟩
    refine a_iret hX hR dX8_full_24 ⟨Nat.le_refl _, Nat.le_refl _⟩ rfl ?_
    exact po_int (h w17 (hD.s h17) h17.C) (by unfold fullS; rw [if_pos hip, hjx])
  · refine a_iconst (-1) hX dX8_full_8 (by decide) ?_
    refine a_iret hX hR dX8_full_9 ⟨Nat.le_refl _, Nat.le_refl _⟩ rfl ?_
    exact po_int (h w hD FrC.rf) (by unfold fullS; rw [if_neg c_5])
abbrev T_X8_watched : Tr := fun lay av w Po => ∃ (g : Sg) (p t m : Int32), av = [.ref (lay 221), .int p, .int t, .int m] ∧ (MD g w) ∧ (okS g) ∧ ∀ w' : St, MD g w' → FrC w w' → Po (some (.int (watchedS g p t m))) w'
set_option maxRecDepth 100000 in
set_option maxHeartbeats 4000000 in
theorem c_X8_watched : Ct yX8_watched cX8_watched 4 (some .int) 5 0 0 T_X8_watched := by
  refine Ct.mk (by decide +kernel) ?_
  intro X av w Po hX hR hT
  obtain ⟨g, p, t, m, rfl, hD, ho, h⟩ := hT
  refine ⟨rfl, ?_⟩
  show A X 0 0 0 [some (.ref (xlay X 221)), some (.int p), some (.int t), some (.int m)] [] w
  refine a_aload_n hX dX8_watched_0 rfl ?_
  refine a_iload_n hX dX8_watched_1 rfl ?_
  refine a_callV [_] hX c_X8_isPerson mi_X8_isPerson mv_X8_isPerson se_X8_isPerson (klt rfl (by decide)) (adr_lt (kd_lt rfl (by decide))) (cell_8 rfl) rfl li_X8_150 (by decide) rfl rfl (Nat.le_of_ble_eq_true rfl) (fun q => q) dX8_watched_2 ⟨_, rfl, ?_⟩
  rw [hD.1.2.2.1]
  refine a_if_eq_b 19 hX dX8_watched_5 (by decide) (fun c_5 => ?_) (fun c_5 => ?_)
  · refine a_iconst (-1) hX dX8_watched_19 (by decide) ?_
    refine a_iret hX hR dX8_watched_20 ⟨Nat.le_refl _, Nat.le_refl _⟩ rfl ?_
    exact po_int (h w hD FrC.rf) (by unfold watchedS; rw [if_neg (fun z => by grind)])
  · refine a_iload_n hX dX8_watched_8 rfl ?_
    refine a_if_lt 19 hX dX8_watched_9 (by decide) (fun c_9 => ?_) (fun c_9 => ?_)
    · refine a_iconst (-1) hX dX8_watched_19 (by decide) ?_
      refine a_iret hX hR dX8_watched_20 ⟨Nat.le_refl _, Nat.le_refl _⟩ rfl ?_
      exact po_int (h w hD FrC.rf) (by unfold watchedS; rw [if_neg (fun z => by grind)])
    · refine a_iload_n hX dX8_watched_12 rfl ?_
      refine a_sipush (1000) hX dX8_watched_13 (by decide) ?_
      refine a_icmp_le 21 hX dX8_watched_16 (by decide) (fun c_16 => ?_) (fun c_16 => ?_)
      · have hip := c_5
        obtain ⟨j, hjg, hj6, rfl⟩ := isP_ex ho c_5
        have hjx : ix (nI j) = j := ix_nI (by omega)
        have hDX := hD
        have hda := ho.da
        have ht3 := ho.1.2.2
        have htt : 0 ≤ t ∧ t ≤ 1000 := ⟨by grind, c_16⟩
        obtain ⟨x, hx, rfl⟩ := le_ex (n := 1000) (by decide) htt
        refine a_aload_n hX dX8_watched_21 rfl ?_
        refine a_iload_n hX dX8_watched_22 rfl ?_
        refine a_aload_n hX dX8_watched_23 rfl ?_
        refine a_callV [] hX c_X8_known mi_X8_known mv_X8_known se_X8_known (klt rfl (by decide)) (adr_lt (kd_lt rfl (by decide))) (cell_8 rfl) rfl li_X8_202 (by decide) rfl rfl (Nat.le_of_ble_eq_true rfl) (fun q => q) dX8_watched_24 ⟨_, rfl, hDX, ho, ?_⟩
        refine a_iload_n hX dX8_watched_27 rfl ?_
        refine a_callV [_, _, _] hX c_X8_reckon mi_X8_reckon mv_X8_reckon se_X8_reckon (klt rfl (by decide)) (adr_lt (kd_lt rfl (by decide))) (cell_8 rfl) rfl li_X8_192 (by decide) rfl rfl (Nat.le_of_ble_eq_true rfl) (fun q => q) dX8_watched_28 ⟨g, _, _, _, rfl, hDX, ho, hj6, (by omega), ?_⟩
        intro w28 be en h28 hk28
        have hk28 : MK w28 (RSk g) j m be en := hk28
        refine a_aload_n hX dX8_watched_31 rfl ?_
        refine a_iload_n hX dX8_watched_32 rfl ?_
        refine a_callV [_] hX c_X8_watchedNow mi_X8_watchedNow mv_X8_watchedNow se_X8_watchedNow (klt rfl (by decide)) (adr_lt (kd_lt rfl (by decide))) (cell_8 rfl) rfl li_X8_195 (by decide) rfl rfl (Nat.le_of_ble_eq_true rfl) (fun q => q) dX8_watched_33 ⟨RSk g, j, x, m, _, _, rfl, hk28, ho.k, hj6, hx, ?_⟩
        refine a_iret hX hR dX8_watched_36 ⟨Nat.le_refl _, Nat.le_refl _⟩ rfl ?_
        exact po_int (h w28 (hD.s h28) h28.C) (by unfold watchedS; rw [if_pos ⟨hip, htt⟩, hjx, ix_nI (show x < 2 ^ 31 by omega)])
      · refine a_iconst (-1) hX dX8_watched_19 (by decide) ?_
        refine a_iret hX hR dX8_watched_20 ⟨Nat.le_refl _, Nat.le_refl _⟩ rfl ?_
        exact po_int (h w hD FrC.rf) (by unfold watchedS; rw [if_neg (fun z => by grind)])
abbrev T_X8_open : Tr := fun lay av w Po => ∃ (g : Sg) (p m : Int32), av = [.ref (lay 221), .int p, .int m] ∧ (MD g w) ∧ (okS g) ∧ ∀ w' : St, MD g w' → FrC w w' → Po (some (.int (openS g p m))) w'
set_option maxRecDepth 100000 in
set_option maxHeartbeats 4000000 in
theorem c_X8_open : Ct yX8_open cX8_open 4 (some .int) 3 0 0 T_X8_open := by
  refine Ct.mk (by decide +kernel) ?_
  intro X av w Po hX hR hT
  obtain ⟨g, p, m, rfl, hD, ho, h⟩ := hT
  refine ⟨rfl, ?_⟩
  show A X 0 0 0 [some (.ref (xlay X 221)), some (.int p), some (.int m), none] [] w
  refine a_aload_n hX dX8_open_0 rfl ?_
  refine a_iload_n hX dX8_open_1 rfl ?_
  refine a_callV [_] hX c_X8_isPerson mi_X8_isPerson mv_X8_isPerson se_X8_isPerson (klt rfl (by decide)) (adr_lt (kd_lt rfl (by decide))) (cell_8 rfl) rfl li_X8_150 (by decide) rfl rfl (Nat.le_of_ble_eq_true rfl) (fun q => q) dX8_open_2 ⟨_, rfl, ?_⟩
  rw [hD.1.2.2.1]
  refine a_if_eq_b 15 hX dX8_open_5 (by decide) (fun c_5 => ?_) (fun c_5 => ?_)
  · refine a_iconst (-1) hX dX8_open_15 (by decide) ?_
    refine a_iret hX hR dX8_open_16 ⟨Nat.le_refl _, Nat.le_refl _⟩ rfl ?_
    exact po_int (h w hD FrC.rf) (by unfold openS; rw [if_neg (fun z => by grind)])
  · refine a_iload_n hX dX8_open_8 rfl ?_
    refine a_callS [_] hX c_X8_isMonth mi_X8_isMonth ms_X8_isMonth li_X8_186 (by decide) rfl rfl (Nat.le_of_ble_eq_true rfl) (fun q => q) dX8_open_9 ⟨_, rfl, ?_⟩
    refine a_if_ne_b 17 hX dX8_open_12 (by decide) (fun c_12 => ?_) (fun c_12 => ?_)
    · have hip := c_5
      obtain ⟨j, hjg, hj6, rfl⟩ := isP_ex ho c_5
      have hjx : ix (nI j) = j := ix_nI (by omega)
      have hDX := hD
      have hda := ho.da
      have ht3 := ho.1.2.2
      have him := c_12
      obtain ⟨M, hMM, rfl⟩ := isM_ex c_12
      refine a_aload_n hX dX8_open_17 rfl ?_
      refine a_iload_n hX dX8_open_18 rfl ?_
      refine a_aload_n hX dX8_open_19 rfl ?_
      refine a_callV [] hX c_X8_known mi_X8_known mv_X8_known se_X8_known (klt rfl (by decide)) (adr_lt (kd_lt rfl (by decide))) (cell_8 rfl) rfl li_X8_202 (by decide) rfl rfl (Nat.le_of_ble_eq_true rfl) (fun q => q) dX8_open_20 ⟨_, rfl, hD, ho, ?_⟩
      refine a_callV [_, _] hX c_X8_tellAgain mi_X8_tellAgain mv_X8_tellAgain se_X8_tellAgain (klt rfl (by decide)) (adr_lt (kd_lt rfl (by decide))) (cell_8 rfl) rfl li_X8_140 (by decide) rfl rfl (Nat.le_of_ble_eq_true rfl) (fun q => q) dX8_open_23 ⟨g, _, _, rfl, hD, ho, hj6, (by omega), ?_⟩
      intro w23 h23 hm23
      have hm23 : MP w23 (RSk g) j := hm23
      refine a_bipush (120) hX dX8_open_26 (by decide) ?_
      refine a_iload_n hX dX8_open_28 rfl ?_
      refine a_imul hX dX8_open_29 ?_
      refine a_iload_n hX dX8_open_30 rfl ?_
      refine a_iadd hX dX8_open_31 ?_
      rw [n120]
      obtain ⟨c1, c2⟩ := hm23.2.1 j hj6 M hMM
      obtain ⟨h0, n, hn, en⟩ := ho.k.2 j hj6 M hMM
      have hm0 : mo (RSk g) (nI j) (nI M) 0 = (RSk g).2.1 j M 0 := by unfold mo; rw [hjx, ix_nI (by omega)]
      have hm1 : mo (RSk g) (nI j) (nI M) 1 = (RSk g).2.1 j M 1 := by unfold mo; rw [hjx, ix_nI (by omega)]
      have c3 : ((RSk g).2.1 j M 0 = 1 ∨ (RSk g).2.1 j M 0 = 2) → w23.1 235 (120 * j + M) = (RSk g).2.1 j M 1 := fun z => (c2 z).2.1
      clear c2
      refine a_istore_n (ls' := [_, _, _, _]) hX dX8_open_32 (Nat.le_of_ble_eq_true rfl) rfl ?_
      refine a_aload_n hX dX8_open_33 rfl ?_
      refine gf_X8_47 rfl hX dX8_open_34 ?_
      refine a_iload_n hX dX8_open_37 rfl ?_
      refine a_iald ((120 * j + M)) hX rfl rfl (show _ < 720 by omega) dX8_open_38 ?_
      refine a_iconst (2) hX dX8_open_39 (by decide) ?_
      refine a_icmp_eq 64 hX dX8_open_40 (by decide) (fun c_40 => ?_) (fun c_40 => ?_)
      · refine a_iconst (1) hX dX8_open_64 (by decide) ?_
        refine a_goto 69 hX dX8_open_65 (by decide) ?_
        refine a_iret hX hR dX8_open_69 ⟨Nat.le_refl _, Nat.le_refl _⟩ rfl ?_
        exact po_int (h w23 (hD.s h23) h23.C) (by
          unfold openS rowS
          rw [if_pos ⟨hip, him⟩, hm0, hm1]
          rcases h0 with e | e | e | e <;> rw [e] at c1 c3 ⊢ <;> simp at c1 c3 ⊢ <;> grind)
      · refine a_aload_n hX dX8_open_43 rfl ?_
        refine gf_X8_47 rfl hX dX8_open_44 ?_
        refine a_iload_n hX dX8_open_47 rfl ?_
        refine a_iald ((120 * j + M)) hX rfl rfl (show _ < 720 by omega) dX8_open_48 ?_
        refine a_iconst (1) hX dX8_open_49 (by decide) ?_
        refine a_icmp_ne 68 hX dX8_open_50 (by decide) (fun c_50 => ?_) (fun c_50 => ?_)
        · refine a_iconst (0) hX dX8_open_68 (by decide) ?_
          refine a_iret hX hR dX8_open_69 ⟨Nat.le_refl _, Nat.le_refl _⟩ rfl ?_
          exact po_int (h w23 (hD.s h23) h23.C) (by
            unfold openS rowS
            rw [if_pos ⟨hip, him⟩, hm0, hm1]
            rcases h0 with e | e | e | e <;> rw [e] at c1 c3 ⊢ <;> simp at c1 c3 ⊢ <;> grind)
        · refine a_aload_n hX dX8_open_53 rfl ?_
          refine gf_X8_54 rfl hX dX8_open_54 ?_
          refine a_iload_n hX dX8_open_57 rfl ?_
          refine a_iald ((120 * j + M)) hX rfl rfl (show _ < 720 by omega) dX8_open_58 ?_
          refine a_bipush (30) hX dX8_open_59 (by decide) ?_
          refine a_icmp_ge 68 hX dX8_open_61 (by decide) (fun c_61 => ?_) (fun c_61 => ?_)
          · refine a_iconst (0) hX dX8_open_68 (by decide) ?_
            refine a_iret hX hR dX8_open_69 ⟨Nat.le_refl _, Nat.le_refl _⟩ rfl ?_
            exact po_int (h w23 (hD.s h23) h23.C) (by
              unfold openS rowS
              rw [if_pos ⟨hip, him⟩, hm0, hm1]
              rcases h0 with e | e | e | e <;> rw [e] at c1 c3 ⊢ <;> simp at c1 c3 ⊢ <;> grind)
          · refine a_iconst (1) hX dX8_open_64 (by decide) ?_
            refine a_goto 69 hX dX8_open_65 (by decide) ?_
            refine a_iret hX hR dX8_open_69 ⟨Nat.le_refl _, Nat.le_refl _⟩ rfl ?_
            exact po_int (h w23 (hD.s h23) h23.C) (by
              unfold openS rowS
              rw [if_pos ⟨hip, him⟩, hm0, hm1]
              rcases h0 with e | e | e | e <;> rw [e] at c1 c3 ⊢ <;> simp at c1 c3 ⊢ <;> grind)
    · refine a_iconst (-1) hX dX8_open_15 (by decide) ?_
      refine a_iret hX hR dX8_open_16 ⟨Nat.le_refl _, Nat.le_refl _⟩ rfl ?_
      exact po_int (h w hD FrC.rf) (by unfold openS; rw [if_neg (fun z => by grind)])
abbrev T_X8_over : Tr := fun lay av w Po => ∃ (g : Sg) (p : Int32), av = [.ref (lay 221), .int p] ∧ (MD g w) ∧ (okS g) ∧ ∀ w' : St, MD g w' → FrC w w' → Po (some (.int (overS g p))) w'
set_option maxRecDepth 100000 in
set_option maxHeartbeats 4000000 in
theorem c_X8_over : Ct yX8_over cX8_over 6 (some .int) 5 0 0 T_X8_over := by
  refine Ct.mk (by decide +kernel) ?_
  intro X av w Po hX hR hT
  obtain ⟨g, p, rfl, hD, ho, h⟩ := hT
  refine ⟨rfl, ?_⟩
  show A X 0 0 0 [some (.ref (xlay X 221)), some (.int p), none, none, none, none] [] w
  refine a_aload_n hX dX8_over_0 rfl ?_
  refine a_iload_n hX dX8_over_1 rfl ?_
  refine a_callV [_] hX c_X8_isPerson mi_X8_isPerson mv_X8_isPerson se_X8_isPerson (klt rfl (by decide)) (adr_lt (kd_lt rfl (by decide))) (cell_8 rfl) rfl li_X8_150 (by decide) rfl rfl (Nat.le_of_ble_eq_true rfl) (fun q => q) dX8_over_2 ⟨_, rfl, ?_⟩
  rw [hD.1.2.2.1]
  refine a_if_ne_b 10 hX dX8_over_5 (by decide) (fun c_5 => ?_) (fun c_5 => ?_)
  · have hip := c_5
    obtain ⟨j, hjg, hj6, rfl⟩ := isP_ex ho c_5
    have hjx : ix (nI j) = j := ix_nI (by omega)
    have hDX := hD
    have hda := ho.da
    have ht3 := ho.1.2.2
    refine a_aload_n hX dX8_over_10 rfl ?_
    refine a_iload_n hX dX8_over_11 rfl ?_
    refine a_aload_n hX dX8_over_12 rfl ?_
    refine a_callV [] hX c_X8_known mi_X8_known mv_X8_known se_X8_known (klt rfl (by decide)) (adr_lt (kd_lt rfl (by decide))) (cell_8 rfl) rfl li_X8_202 (by decide) rfl rfl (Nat.le_of_ble_eq_true rfl) (fun q => q) dX8_over_13 ⟨_, rfl, hDX, ho, ?_⟩
    refine a_iconst (0) hX dX8_over_16 (by decide) ?_
    refine a_callV [_, _, _] hX c_X8_reckon mi_X8_reckon mv_X8_reckon se_X8_reckon (klt rfl (by decide)) (adr_lt (kd_lt rfl (by decide))) (cell_8 rfl) rfl li_X8_192 (by decide) rfl rfl (Nat.le_of_ble_eq_true rfl) (fun q => q) dX8_over_17 ⟨g, _, _, _, rfl, hDX, ho, hj6, (by omega), ?_⟩
    intro w17 be en h17 hk17
    have hk17 : MK w17 (RSk g) j 0 be en := hk17
    refine a_aload_n hX dX8_over_20 rfl ?_
    refine a_callV [] hX c_X8_fullNow mi_X8_fullNow mv_X8_fullNow se_X8_fullNow (klt rfl (by decide)) (adr_lt (kd_lt rfl (by decide))) (cell_8 rfl) rfl li_X8_198 (by decide) rfl rfl (Nat.le_of_ble_eq_true rfl) (fun q => q) dX8_over_21 ⟨RSk g, j, 0, _, _, rfl, hk17, ho.k, hj6, ?_⟩
    have hfb := fuD_b (RSk g) j 0
    have hD17 := hD.s h17
    have hF : nvI (fuD (RSk g) j 0) = -1 ↔ fuD (RSk g) j 0 = 100000 := by
      unfold nvI
      by_cases hq : fuD (RSk g) j 0 = 100000
      · simp [hq]
      · rw [if_neg hq]
        exact ⟨fun z => absurd z (nI_nm1 (by omega)), fun z => absurd z hq⟩
    refine a_istore_n (ls' := [_, _, _, _, _, _]) hX dX8_over_24 (Nat.le_of_ble_eq_true rfl) rfl ?_
    refine a_iconst (0) hX dX8_over_25 (by decide) ?_
    refine a_istore_n (ls' := [_, _, _, _, _, _]) hX dX8_over_26 (Nat.le_of_ble_eq_true rfl) rfl ?_
    refine a_iconst (0) hX dX8_over_27 (by decide) ?_
    refine a_istore (ls' := [_, _, _, _, _, _]) hX dX8_over_28 (Nat.le_of_ble_eq_true rfl) rfl ?_
    have L30 : ∀ (fu : Nat) (d : Nat) (y5 : Option Value), daN g + 2 - d < fu → (d ≤ daN g + 1) → A X 0 0 30 [some (.ref (xlay X 221)), some (.int (nI j)), some (.int (nvI (fuD (RSk g) j 0))), some (.int (nI (fb_ct (fun d => decide (fuD (RSk g) j 0 ≤ d) && tdB (RSk g) j d) d))), some (.int (nI d)), y5] [] w17 := by
      intro fu
      induction fu with
      | zero => intro d y5 hmu; exact absurd hmu (Nat.not_lt_zero _)
      | succ fu ih =>
        intro d y5 hmu hd2
        refine a_iload_n hX dX8_over_30 rfl ?_
        refine a_iconst (-1) hX dX8_over_31 (by decide) ?_
        refine a_icmp_eq 118 hX dX8_over_32 (by decide) (fun c_32 => ?_) (fun c_32 => ?_)
        · refine a_iload_n hX dX8_over_118 rfl ?_
          refine a_iret hX hR dX8_over_119 ⟨Nat.le_refl _, Nat.le_refl _⟩ rfl ?_
          refine po_int (h w17 hD17 h17.C) ?_
          unfold overS
          rw [if_pos hip, hjx]
          first
          | (have hF1 := hF.mp c_32
             rw [fb_ct_z (fun i hi => by rw [hF1, decide_eq_false (by omega)]; rfl)]
             rw [fb_ct_z (fun i hi => by rw [hF1, decide_eq_false (by omega)]; rfl)])
          | (have hgt : daN g < d := Nat.not_le.mp (fun z => absurd (nI_le z (by omega)) (Int32.not_le.mpr c_41))
             have : d = daN g + 1 := by omega
             rw [this])
        · refine a_iload hX dX8_over_35 rfl ?_
          refine a_aload_n hX dX8_over_37 rfl ?_
          refine a_callV [] hX c_X8_known mi_X8_known mv_X8_known se_X8_known (klt rfl (by decide)) (adr_lt (kd_lt rfl (by decide))) (cell_8 rfl) rfl li_X8_202 (by decide) rfl rfl (Nat.le_of_ble_eq_true rfl) (fun q => q) dX8_over_38 ⟨_, rfl, hD17, ho, ?_⟩
          refine a_icmp_gt 118 hX dX8_over_41 (by decide) (fun c_41 => ?_) (fun c_41 => ?_)
          · refine a_iload_n hX dX8_over_118 rfl ?_
            refine a_iret hX hR dX8_over_119 ⟨Nat.le_refl _, Nat.le_refl _⟩ rfl ?_
            refine po_int (h w17 hD17 h17.C) ?_
            unfold overS
            rw [if_pos hip, hjx]
            first
            | (have hF1 := hF.mp c_32
               rw [fb_ct_z (fun i hi => by rw [hF1, decide_eq_false (by omega)]; rfl)]
               rw [fb_ct_z (fun i hi => by rw [hF1, decide_eq_false (by omega)]; rfl)])
            | (have hgt : daN g < d := Nat.not_le.mp (fun z => absurd (nI_le z (by omega)) (Int32.not_le.mpr c_41))
               have : d = daN g + 1 := by omega
               rw [this])
          · have hdd : d ≤ daN g := (nI_leI (by omega) (by omega)).mp (le_nlt c_41)
            have hd36 : d < 3600 := by omega
            have hF1 : fuD (RSk g) j 0 ≠ 100000 := fun z => c_32 (hF.mpr z)
            have hFl := nvI_lt hF1
            obtain ⟨c1, c2⟩ := hk17.1.2.1 j hj6 (d / 30) (by omega)
            obtain ⟨h0, n, hn, en9⟩ := ho.k.2 j hj6 (d / 30) (by omega)
            have hrow := (hk17.1.2.1 j hj6 (d / 30) (by omega)).row ho.k.2 hj6 (by omega)
            have c3 : ((RSk g).2.1 j (d / 30) 0 = 1 ∨ (RSk g).2.1 j (d / 30) 0 = 2) → w17.1 235 (120 * j + d / 30) = nI n ∧ (w17.1 236 (30 * (120 * j + d / 30) + d % 30) ≠ 0 ↔ (RSk g).2.2.1 j (d / 30) (d % 30) = true) := fun z => ⟨by rw [(c2 z).2.1, en9], (c2 z).2.2 _ (by omega)⟩
            have h30 : nI n = 30 ↔ ¬ nI n < 30 := by
              have a1 : nI n = 30 ↔ n = 30 := nI_eq (b := 30) (by omega) (by decide)
              have a2 : nI n < 30 ↔ n < 30 := nI_ltI (b := 30) (by omega) (by decide)
              rw [a1, a2]
              omega
            have htd : tdB (RSk g) j d = true ↔ (((RSk g).2.1 j (d / 30) 0 = 1 ∨ (RSk g).2.1 j (d / 30) 0 = 2) ∧ ¬ nI n < 30) ∧ (RSk g).2.2.1 j (d / 30) (d % 30) = true := by
              unfold tdB
              rw [Bool.and_eq_true, decide_eq_true_eq, en9]
            have hd30 : nI d / 30 = nI (d / 30) := pk_div (d := 30) (by omega) (by decide) (by decide)
            have hm30 : nI d - nI d / 30 * 30 = nI (d % 30) := pk_rem (d := 30) (by omega) (by decide) (by decide)
            clear c2 c1
            refine a_bipush (120) hX dX8_over_44 (by decide) ?_
            refine a_iload_n hX dX8_over_46 rfl ?_
            refine a_imul hX dX8_over_47 ?_
            refine a_iload hX dX8_over_48 rfl ?_
            refine a_bipush (30) hX dX8_over_50 (by decide) ?_
            refine a_idiv hX dX8_over_52 (by decide) ?_
            rw [hd30]
            refine a_iadd hX dX8_over_53 ?_
            rw [n120]
            refine a_istore (ls' := [_, _, _, _, _, _]) hX dX8_over_54 (Nat.le_of_ble_eq_true rfl) rfl ?_
            refine a_iload_n hX dX8_over_56 rfl ?_
            refine a_iload hX dX8_over_57 rfl ?_
            refine a_iload_n hX dX8_over_59 rfl ?_
            rw [hFl]
            refine a_icmp_lt 109 hX dX8_over_60 (by decide) (fun c_60 => ?_) (fun c_60 => ?_)
            · refine a_iconst (0) hX dX8_over_109 (by decide) ?_
              refine a_iadd hX dX8_over_110 ?_
              refine a_istore_n (ls' := [_, _, _, _, _, _]) hX dX8_over_111 (Nat.le_of_ble_eq_true rfl) rfl ?_
              refine a_iinc (ls' := [_, _, _, _, _, _]) (nI (d + 1)) hX dX8_over_112 rfl (nI_i1 d) rfl ?_
              refine a_goto 30 hX dX8_over_115 (by decide) ?_
              have hsu := fb_ct_succ (fun d => decide (fuD (RSk g) j 0 ≤ d) && tdB (RSk g) j d) d
              have hb : (decide (fuD (RSk g) j 0 ≤ d) && tdB (RSk g) j d) = false := by
                cases hz : (decide (fuD (RSk g) j 0 ≤ d) && tdB (RSk g) j d)
                · rfl
                · exfalso
                  rw [Bool.and_eq_true, decide_eq_true_eq, htd] at hz
                  exact absurd (nI_le hz.1 (by omega)) (Int32.not_le.mpr c_60)
              have h9 := ih (d + 1) (some (.int (nI (120 * j + d / 30)))) (by omega) (by omega)
              rw [hsu, hb, hFl] at h9
              rw [show nI (fb_ct (fun d => decide (fuD (RSk g) j 0 ≤ d) && tdB (RSk g) j d) d) + 0 = nI (fb_ct (fun d => decide (fuD (RSk g) j 0 ≤ d) && tdB (RSk g) j d) d + 0) from nI_add _ 0]
              exact h9
            · refine a_aload_n hX dX8_over_63 rfl ?_
              refine gf_X8_47 rfl hX dX8_over_64 ?_
              refine a_iload hX dX8_over_67 rfl ?_
              refine a_iald ((120 * j + d / 30)) hX rfl rfl (show _ < 720 by omega) dX8_over_69 ?_
              refine a_iconst (1) hX dX8_over_70 (by decide) ?_
              refine a_icmp_ne 109 hX dX8_over_71 (by decide) (fun c_71 => ?_) (fun c_71 => ?_)
              · refine a_iconst (0) hX dX8_over_109 (by decide) ?_
                refine a_iadd hX dX8_over_110 ?_
                refine a_istore_n (ls' := [_, _, _, _, _, _]) hX dX8_over_111 (Nat.le_of_ble_eq_true rfl) rfl ?_
                refine a_iinc (ls' := [_, _, _, _, _, _]) (nI (d + 1)) hX dX8_over_112 rfl (nI_i1 d) rfl ?_
                refine a_goto 30 hX dX8_over_115 (by decide) ?_
                have hsu := fb_ct_succ (fun d => decide (fuD (RSk g) j 0 ≤ d) && tdB (RSk g) j d) d
                have hb : (decide (fuD (RSk g) j 0 ≤ d) && tdB (RSk g) j d) = false := by
                  cases hz : (decide (fuD (RSk g) j 0 ≤ d) && tdB (RSk g) j d)
                  · rfl
                  · exfalso
                    rw [Bool.and_eq_true, decide_eq_true_eq, htd] at hz
                    exact c_71 (hrow.mpr hz.2.1.1)
                have h9 := ih (d + 1) (some (.int (nI (120 * j + d / 30)))) (by omega) (by omega)
                rw [hsu, hb, hFl] at h9
                rw [show nI (fb_ct (fun d => decide (fuD (RSk g) j 0 ≤ d) && tdB (RSk g) j d) d) + 0 = nI (fb_ct (fun d => decide (fuD (RSk g) j 0 ≤ d) && tdB (RSk g) j d) d + 0) from nI_add _ 0]
                exact h9
              · refine a_aload_n hX dX8_over_74 rfl ?_
                refine gf_X8_54 rfl hX dX8_over_75 ?_
                refine a_iload hX dX8_over_78 rfl ?_
                refine a_iald ((120 * j + d / 30)) hX rfl rfl (show _ < 720 by omega) dX8_over_80 ?_
                refine a_bipush (30) hX dX8_over_81 (by decide) ?_
                refine a_icmp_ne 109 hX dX8_over_83 (by decide) (fun c_83 => ?_) (fun c_83 => ?_)
                · refine a_iconst (0) hX dX8_over_109 (by decide) ?_
                  refine a_iadd hX dX8_over_110 ?_
                  refine a_istore_n (ls' := [_, _, _, _, _, _]) hX dX8_over_111 (Nat.le_of_ble_eq_true rfl) rfl ?_
                  refine a_iinc (ls' := [_, _, _, _, _, _]) (nI (d + 1)) hX dX8_over_112 rfl (nI_i1 d) rfl ?_
                  refine a_goto 30 hX dX8_over_115 (by decide) ?_
                  have hsu := fb_ct_succ (fun d => decide (fuD (RSk g) j 0 ≤ d) && tdB (RSk g) j d) d
                  have hb : (decide (fuD (RSk g) j 0 ≤ d) && tdB (RSk g) j d) = false := by
                    cases hz : (decide (fuD (RSk g) j 0 ≤ d) && tdB (RSk g) j d)
                    · rfl
                    · exfalso
                      rw [Bool.and_eq_true, decide_eq_true_eq, htd] at hz
                      exact c_83 (by rw [(c3 hz.2.1.1).1]; exact h30.mpr hz.2.1.2)
                  have h9 := ih (d + 1) (some (.int (nI (120 * j + d / 30)))) (by omega) (by omega)
                  rw [hsu, hb, hFl] at h9
                  rw [show nI (fb_ct (fun d => decide (fuD (RSk g) j 0 ≤ d) && tdB (RSk g) j d) d) + 0 = nI (fb_ct (fun d => decide (fuD (RSk g) j 0 ≤ d) && tdB (RSk g) j d) d + 0) from nI_add _ 0]
                  exact h9
                · refine a_aload_n hX dX8_over_86 rfl ?_
                  refine gf_X8_57 rfl hX dX8_over_87 ?_
                  refine a_bipush (30) hX dX8_over_90 (by decide) ?_
                  refine a_iload hX dX8_over_92 rfl ?_
                  refine a_imul hX dX8_over_94 ?_
                  refine a_iload hX dX8_over_95 rfl ?_
                  refine a_bipush (30) hX dX8_over_97 (by decide) ?_
                  refine a_irem hX dX8_over_99 (by decide) ?_
                  rw [hm30]
                  refine a_iadd hX dX8_over_100 ?_
                  rw [n30]
                  refine a_iald ((30 * (120 * j + d / 30) + d % 30)) hX rfl rfl (show _ < 21600 by omega) dX8_over_101 ?_
                  refine a_if_eq 109 hX dX8_over_102 (by decide) (fun c_102 => ?_) (fun c_102 => ?_)
                  · refine a_iconst (0) hX dX8_over_109 (by decide) ?_
                    refine a_iadd hX dX8_over_110 ?_
                    refine a_istore_n (ls' := [_, _, _, _, _, _]) hX dX8_over_111 (Nat.le_of_ble_eq_true rfl) rfl ?_
                    refine a_iinc (ls' := [_, _, _, _, _, _]) (nI (d + 1)) hX dX8_over_112 rfl (nI_i1 d) rfl ?_
                    refine a_goto 30 hX dX8_over_115 (by decide) ?_
                    have hsu := fb_ct_succ (fun d => decide (fuD (RSk g) j 0 ≤ d) && tdB (RSk g) j d) d
                    have hb : (decide (fuD (RSk g) j 0 ≤ d) && tdB (RSk g) j d) = false := by
                      cases hz : (decide (fuD (RSk g) j 0 ≤ d) && tdB (RSk g) j d)
                      · rfl
                      · exfalso
                        rw [Bool.and_eq_true, decide_eq_true_eq, htd] at hz
                        exact (c3 hz.2.1.1).2.mpr hz.2.2 c_102
                    have h9 := ih (d + 1) (some (.int (nI (120 * j + d / 30)))) (by omega) (by omega)
                    rw [hsu, hb, hFl] at h9
                    rw [show nI (fb_ct (fun d => decide (fuD (RSk g) j 0 ≤ d) && tdB (RSk g) j d) d) + 0 = nI (fb_ct (fun d => decide (fuD (RSk g) j 0 ≤ d) && tdB (RSk g) j d) d + 0) from nI_add _ 0]
                    exact h9
                  · refine a_iconst (1) hX dX8_over_105 (by decide) ?_
                    refine a_goto 110 hX dX8_over_106 (by decide) ?_
                    refine a_iadd hX dX8_over_110 ?_
                    refine a_istore_n (ls' := [_, _, _, _, _, _]) hX dX8_over_111 (Nat.le_of_ble_eq_true rfl) rfl ?_
                    refine a_iinc (ls' := [_, _, _, _, _, _]) (nI (d + 1)) hX dX8_over_112 rfl (nI_i1 d) rfl ?_
                    refine a_goto 30 hX dX8_over_115 (by decide) ?_
                    have hsu := fb_ct_succ (fun d => decide (fuD (RSk g) j 0 ≤ d) && tdB (RSk g) j d) d
                    have hb : (decide (fuD (RSk g) j 0 ≤ d) && tdB (RSk g) j d) = true := by
                      have hr9 := hrow.mp c_71
                      rw [Bool.and_eq_true, decide_eq_true_eq, htd]
                      refine ⟨(nI_leI (by omega) (by omega)).mp (le_nlt c_60), ⟨hr9, h30.mp (by rw [← (c3 hr9).1]; exact c_83)⟩, (c3 hr9).2.mp c_102⟩
                    have h9 := ih (d + 1) (some (.int (nI (120 * j + d / 30)))) (by omega) (by omega)
                    rw [hsu, hb, hFl] at h9
                    rw [show nI (fb_ct (fun d => decide (fuD (RSk g) j 0 ≤ d) && tdB (RSk g) j d) d) + 1 = nI (fb_ct (fun d => decide (fuD (RSk g) j 0 ≤ d) && tdB (RSk g) j d) d + 1) from nI_1 _]
                    exact h9
    exact L30 (daN g + 3) 0 none (by omega) (by omega)
  · refine a_iconst (-1) hX dX8_over_8 (by decide) ?_
    refine a_iret hX hR dX8_over_9 ⟨Nat.le_refl _, Nat.le_refl _⟩ rfl ?_
    exact po_int (h w hD FrC.rf) (by unfold overS; rw [if_neg c_5])
abbrev T_X8_ring : Tr := fun lay av w Po => ∃ (g : Sg) (i : Int32), av = [.ref (lay 221), .int i] ∧ (MD g w) ∧ (okS g) ∧ ∀ w' : St, MD g w' → FrC w w' → Po (some (.int (ringS g i))) w'
set_option maxRecDepth 100000 in
set_option maxHeartbeats 4000000 in
theorem c_X8_ring : Ct yX8_ring cX8_ring 2 (some .int) 0 0 0 T_X8_ring := by
  refine Ct.mk (by decide +kernel) ?_
  intro X av w Po hX hR hT
  obtain ⟨g, i, rfl, hD, ho, h⟩ := hT
  refine ⟨rfl, ?_⟩
  show A X 0 0 0 [some (.ref (xlay X 221)), some (.int i)] [] w
  refine a_iload_n hX dX8_ring_0 rfl ?_
  refine a_if_lt 21 hX dX8_ring_1 (by decide) (fun c_1 => ?_) (fun c_1 => ?_)
  · refine a_iconst (-1) hX dX8_ring_21 (by decide) ?_
    refine a_iret hX hR dX8_ring_22 ⟨Nat.le_refl _, Nat.le_refl _⟩ rfl ?_
    first
    | exact po_int (h w hD FrC.rf) (by unfold ringS; rw [if_pos (in_rng hx (by omega)), ix_nI (by omega)]; exact (hD.2.2.2.2 x hx).symm)
    | exact po_int (h w hD FrC.rf) (by unfold ringS; rw [if_neg (fun z => absurd z.1 (Int32.not_le.mpr c_1))])
    | exact po_int (h w hD FrC.rf) (by unfold ringS; rw [if_neg (fun z => absurd z.2 (Int32.not_lt.mpr c_9))])
  · refine a_iload_n hX dX8_ring_4 rfl ?_
    refine a_aload_n hX dX8_ring_5 rfl ?_
    refine gf_X8_183 rfl hX dX8_ring_6 ?_
    rw [hD.2.2.2.1]
    have h12 := ho.2.2.1.1
    refine a_icmp_ge 21 hX dX8_ring_9 (by decide) (fun c_9 => ?_) (fun c_9 => ?_)
    · refine a_iconst (-1) hX dX8_ring_21 (by decide) ?_
      refine a_iret hX hR dX8_ring_22 ⟨Nat.le_refl _, Nat.le_refl _⟩ rfl ?_
      first
      | exact po_int (h w hD FrC.rf) (by unfold ringS; rw [if_pos (in_rng hx (by omega)), ix_nI (by omega)]; exact (hD.2.2.2.2 x hx).symm)
      | exact po_int (h w hD FrC.rf) (by unfold ringS; rw [if_neg (fun z => absurd z.1 (Int32.not_le.mpr c_1))])
      | exact po_int (h w hD FrC.rf) (by unfold ringS; rw [if_neg (fun z => absurd z.2 (Int32.not_lt.mpr c_9))])
    · obtain ⟨x, hx, rfl⟩ := rng_ex (n := gr g) (by omega) ⟨le_nlt c_1, lt_nle c_9⟩
      refine a_aload_n hX dX8_ring_12 rfl ?_
      refine gf_X8_91 rfl hX dX8_ring_13 ?_
      refine a_iload_n hX dX8_ring_16 rfl ?_
      refine a_iald (x) hX rfl rfl (show _ < 12 by omega) dX8_ring_17 ?_
      refine a_goto 22 hX dX8_ring_18 (by decide) ?_
      refine a_iret hX hR dX8_ring_22 ⟨Nat.le_refl _, Nat.le_refl _⟩ rfl ?_
      first
      | exact po_int (h w hD FrC.rf) (by unfold ringS; rw [if_pos (in_rng hx (by omega)), ix_nI (by omega)]; exact (hD.2.2.2.2 x hx).symm)
      | exact po_int (h w hD FrC.rf) (by unfold ringS; rw [if_neg (fun z => absurd z.1 (Int32.not_le.mpr c_1))])
      | exact po_int (h w hD FrC.rf) (by unfold ringS; rw [if_neg (fun z => absurd z.2 (Int32.not_lt.mpr c_9))])
abbrev T_X8_image : Tr := fun lay av w Po => ∃ (g : Sg) (i j : Int32), av = [.ref (lay 221), .int i, .int j] ∧ (MD g w) ∧ (okS g) ∧ ∀ w' : St, MD g w' → FrC w w' → Po (some (.int (imageS g i j))) w'
set_option maxRecDepth 100000 in
set_option maxHeartbeats 4000000 in
theorem c_X8_image : Ct yX8_image cX8_image 3 (some .int) 0 0 0 T_X8_image := by
  refine Ct.mk (by decide +kernel) ?_
  intro X av w Po hX hR hT
  obtain ⟨g, i, j, rfl, hD, ho, h⟩ := hT
  refine ⟨rfl, ?_⟩
  show A X 0 0 0 [some (.ref (xlay X 221)), some (.int i), some (.int j)] [] w
  refine a_iload_n hX dX8_image_0 rfl ?_
  refine a_if_lt 36 hX dX8_image_1 (by decide) (fun c_1 => ?_) (fun c_1 => ?_)
  · refine a_iconst (-1) hX dX8_image_36 (by decide) ?_
    refine a_iret hX hR dX8_image_37 ⟨Nat.le_refl _, Nat.le_refl _⟩ rfl ?_
    first
    | exact po_int (h w hD FrC.rf) (by unfold imageS; rw [if_pos hij, ix_nI (by omega), ix_nI (by omega)]; exact (hD.2.1 x hx y (by omega)).symm)
    | exact po_int (h w hD FrC.rf) (by unfold imageS; rw [if_neg (fun z => absurd z.1.1 (Int32.not_le.mpr c_1))])
    | exact po_int (h w hD FrC.rf) (by unfold imageS; rw [if_neg (fun z => absurd z.1.2 (Int32.not_lt.mpr c_9))])
    | exact po_int (h w hD FrC.rf) (by unfold imageS; rw [if_neg (fun z => absurd z.2.1 (Int32.not_le.mpr c_13))])
    | exact po_int (h w hD FrC.rf) (by unfold imageS; rw [if_neg (fun z => absurd z.2.2 (Int32.not_le.mpr c_19))])
  · refine a_iload_n hX dX8_image_4 rfl ?_
    refine a_aload_n hX dX8_image_5 rfl ?_
    refine gf_X8_106 rfl hX dX8_image_6 ?_
    rw [hD.1.2.2.2]
    have hn4 := ho.1.1
    refine a_icmp_ge 36 hX dX8_image_9 (by decide) (fun c_9 => ?_) (fun c_9 => ?_)
    · refine a_iconst (-1) hX dX8_image_36 (by decide) ?_
      refine a_iret hX hR dX8_image_37 ⟨Nat.le_refl _, Nat.le_refl _⟩ rfl ?_
      first
      | exact po_int (h w hD FrC.rf) (by unfold imageS; rw [if_pos hij, ix_nI (by omega), ix_nI (by omega)]; exact (hD.2.1 x hx y (by omega)).symm)
      | exact po_int (h w hD FrC.rf) (by unfold imageS; rw [if_neg (fun z => absurd z.1.1 (Int32.not_le.mpr c_1))])
      | exact po_int (h w hD FrC.rf) (by unfold imageS; rw [if_neg (fun z => absurd z.1.2 (Int32.not_lt.mpr c_9))])
      | exact po_int (h w hD FrC.rf) (by unfold imageS; rw [if_neg (fun z => absurd z.2.1 (Int32.not_le.mpr c_13))])
      | exact po_int (h w hD FrC.rf) (by unfold imageS; rw [if_neg (fun z => absurd z.2.2 (Int32.not_le.mpr c_19))])
    · refine a_iload_n hX dX8_image_12 rfl ?_
      refine a_if_lt 36 hX dX8_image_13 (by decide) (fun c_13 => ?_) (fun c_13 => ?_)
      · refine a_iconst (-1) hX dX8_image_36 (by decide) ?_
        refine a_iret hX hR dX8_image_37 ⟨Nat.le_refl _, Nat.le_refl _⟩ rfl ?_
        first
        | exact po_int (h w hD FrC.rf) (by unfold imageS; rw [if_pos hij, ix_nI (by omega), ix_nI (by omega)]; exact (hD.2.1 x hx y (by omega)).symm)
        | exact po_int (h w hD FrC.rf) (by unfold imageS; rw [if_neg (fun z => absurd z.1.1 (Int32.not_le.mpr c_1))])
        | exact po_int (h w hD FrC.rf) (by unfold imageS; rw [if_neg (fun z => absurd z.1.2 (Int32.not_lt.mpr c_9))])
        | exact po_int (h w hD FrC.rf) (by unfold imageS; rw [if_neg (fun z => absurd z.2.1 (Int32.not_le.mpr c_13))])
        | exact po_int (h w hD FrC.rf) (by unfold imageS; rw [if_neg (fun z => absurd z.2.2 (Int32.not_le.mpr c_19))])
      · refine a_iload_n hX dX8_image_16 rfl ?_
        refine a_bipush (7) hX dX8_image_17 (by decide) ?_
        refine a_icmp_gt 36 hX dX8_image_19 (by decide) (fun c_19 => ?_) (fun c_19 => ?_)
        · refine a_iconst (-1) hX dX8_image_36 (by decide) ?_
          refine a_iret hX hR dX8_image_37 ⟨Nat.le_refl _, Nat.le_refl _⟩ rfl ?_
          first
          | exact po_int (h w hD FrC.rf) (by unfold imageS; rw [if_pos hij, ix_nI (by omega), ix_nI (by omega)]; exact (hD.2.1 x hx y (by omega)).symm)
          | exact po_int (h w hD FrC.rf) (by unfold imageS; rw [if_neg (fun z => absurd z.1.1 (Int32.not_le.mpr c_1))])
          | exact po_int (h w hD FrC.rf) (by unfold imageS; rw [if_neg (fun z => absurd z.1.2 (Int32.not_lt.mpr c_9))])
          | exact po_int (h w hD FrC.rf) (by unfold imageS; rw [if_neg (fun z => absurd z.2.1 (Int32.not_le.mpr c_13))])
          | exact po_int (h w hD FrC.rf) (by unfold imageS; rw [if_neg (fun z => absurd z.2.2 (Int32.not_le.mpr c_19))])
        · have hij : (0 ≤ i ∧ i < nI (gn g)) ∧ 0 ≤ j ∧ j ≤ 7 := ⟨⟨le_nlt c_1, lt_nle c_9⟩, le_nlt c_13, le_nlt c_19⟩
          obtain ⟨x, hx, rfl⟩ := rng_ex (n := gn g) (by omega) hij.1
          obtain ⟨y, hy, rfl⟩ := le_ex (n := 7) (by decide) hij.2
          refine a_aload_n hX dX8_image_22 rfl ?_
          refine gf_X8_13 rfl hX dX8_image_23 ?_
          refine a_bipush (8) hX dX8_image_26 (by decide) ?_
          refine a_iload_n hX dX8_image_28 rfl ?_
          refine a_imul hX dX8_image_29 ?_
          refine a_iload_n hX dX8_image_30 rfl ?_
          refine a_iadd hX dX8_image_31 ?_
          rw [n8]
          refine a_iald (8 * x + y) hX rfl rfl (show _ < 3200 by omega) dX8_image_32 ?_
          refine a_goto 37 hX dX8_image_33 (by decide) ?_
          refine a_iret hX hR dX8_image_37 ⟨Nat.le_refl _, Nat.le_refl _⟩ rfl ?_
          first
          | exact po_int (h w hD FrC.rf) (by unfold imageS; rw [if_pos hij, ix_nI (by omega), ix_nI (by omega)]; exact (hD.2.1 x hx y (by omega)).symm)
          | exact po_int (h w hD FrC.rf) (by unfold imageS; rw [if_neg (fun z => absurd z.1.1 (Int32.not_le.mpr c_1))])
          | exact po_int (h w hD FrC.rf) (by unfold imageS; rw [if_neg (fun z => absurd z.1.2 (Int32.not_lt.mpr c_9))])
          | exact po_int (h w hD FrC.rf) (by unfold imageS; rw [if_neg (fun z => absurd z.2.1 (Int32.not_le.mpr c_13))])
          | exact po_int (h w hD FrC.rf) (by unfold imageS; rw [if_neg (fun z => absurd z.2.2 (Int32.not_le.mpr c_19))])
abbrev T_X8_count : Tr := fun lay av w Po => ∃ (g : Sg) (x : Int32), av = [.ref (lay 221), .int x] ∧ (MD g w) ∧ (okS g) ∧ ∀ w' : St, MD g w' → FrC w w' → Po (some (.int (countS g x))) w'
set_option maxRecDepth 100000 in
set_option maxHeartbeats 4000000 in
theorem c_X8_count : Ct yX8_count cX8_count 2 (some .int) 1 0 0 T_X8_count := by
  refine Ct.mk (by decide +kernel) ?_
  intro X av w Po hX hR hT
  obtain ⟨g, x, rfl, hD, ho, h⟩ := hT
  refine ⟨rfl, ?_⟩
  show A X 0 0 0 [some (.ref (xlay X 221)), some (.int x)] [] w
  refine a_iload_n hX dX8_count_0 rfl ?_
  have hxc : x = 0 ∨ x = 1 ∨ x = 2 ∨ x = 3 ∨ ¬ (0 ≤ x ∧ x ≤ 3) := by
    by_cases hj : 0 ≤ x ∧ x ≤ 3
    · obtain ⟨y, hy, rfl⟩ := le_ex (n := 3) (by decide) hj
      rcases (show y = 0 ∨ y = 1 ∨ y = 2 ∨ y = 3 by omega) with rfl | rfl | rfl | rfl <;> simp <;> decide
    · simp [hj]
  rcases hxc with rfl | rfl | rfl | rfl | hj
  · refine a_tableIn (off := 31) 32 hX dX8_count_1 (by decide) (by decide) (by decide) (by decide) ?_
    refine a_aload_n hX dX8_count_32 rfl ?_
    refine gf_X8_97 rfl hX dX8_count_33 ?_
    rw [hD.1.1]
    refine a_iret hX hR dX8_count_36 ⟨Nat.le_refl _, Nat.le_refl _⟩ rfl ?_
    exact po_int (h w hD FrC.rf) rfl
  · refine a_tableIn (off := 36) 37 hX dX8_count_1 (by decide) (by decide) (by decide) (by decide) ?_
    refine a_aload_n hX dX8_count_37 rfl ?_
    refine gf_X8_94 rfl hX dX8_count_38 ?_
    rw [hD.1.2.2.1]
    refine a_iret hX hR dX8_count_41 ⟨Nat.le_refl _, Nat.le_refl _⟩ rfl ?_
    exact po_int (h w hD FrC.rf) rfl
  · refine a_tableIn (off := 41) 42 hX dX8_count_1 (by decide) (by decide) (by decide) (by decide) ?_
    refine a_aload_n hX dX8_count_42 rfl ?_
    refine gf_X8_106 rfl hX dX8_count_43 ?_
    rw [hD.1.2.2.2]
    refine a_iret hX hR dX8_count_46 ⟨Nat.le_refl _, Nat.le_refl _⟩ rfl ?_
    exact po_int (h w hD FrC.rf) rfl
  · refine a_tableIn (off := 46) 47 hX dX8_count_1 (by decide) (by decide) (by decide) (by decide) ?_
    refine a_aload_n hX dX8_count_47 rfl ?_
    refine a_callV [] hX c_X8_known mi_X8_known mv_X8_known se_X8_known (klt rfl (by decide)) (adr_lt (kd_lt rfl (by decide))) (cell_8 rfl) rfl li_X8_202 (by decide) rfl rfl (Nat.le_of_ble_eq_true rfl) (fun q => q) dX8_count_48 ⟨_, rfl, hD, ho, ?_⟩
    refine a_iret hX hR dX8_count_51 ⟨Nat.le_refl _, Nat.le_refl _⟩ rfl ?_
    exact po_int (h w hD FrC.rf) rfl
  · refine a_tableOut 52 hX dX8_count_1 (by
        rw [Int32.le_iff_toInt_le, Int32.le_iff_toInt_le] at hj
        have e7 : (3 : Int32).toInt = 3 := rfl
        have e0 : (0 : Int32).toInt = 0 := rfl
        omega) (by decide) ?_
    refine a_iconst (-1) hX dX8_count_52 (by decide) ?_
    refine a_iret hX hR dX8_count_53 ⟨Nat.le_refl _, Nat.le_refl _⟩ rfl ?_
    exact po_int (h w hD FrC.rf) (by
      unfold countS
      rw [if_neg (fun z => hj (by rw [z]; decide)), if_neg (fun z => hj (by rw [z]; decide)), if_neg (fun z => hj (by rw [z]; decide)), if_neg (fun z => hj (by rw [z]; decide))])
