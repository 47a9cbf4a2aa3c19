/-! the class: what is asked -/
theorem dyI_if {b : Nat} (h : bdN b) : (if 0 ≤ nI b ∧ nI b < 3600 then nI b else -1) = dyI b := by
  unfold dyI
  unfold bdN at h
  by_cases hb : b < 3600
  · rw [if_pos hb, if_pos (show 0 ≤ nI b ∧ nI b < 3600 from in_rng hb (by decide))]
  · rw [if_neg hb, if_neg (fun z => hb ((nI_ltI (b := 3600) (by omega) (by decide)).mp z.2))]
theorem dyI_if2 {b : Nat} (h : b ≤ 100000) : (if 0 ≤ nI b ∧ nI b < 3600 then nI b else -1) = dyI b := by
  unfold dyI
  by_cases hb : b < 3600
  · rw [if_pos hb, if_pos (show 0 ≤ nI b ∧ nI b < 3600 from in_rng hb (by decide))]
  · rw [if_neg hb, if_neg (fun z => hb ((nI_ltI (b := 3600) (by omega) (by decide)).mp z.2))]
theorem ordS_ex {g : Sg} {p l : Int32} (ho : okS g) (h : ordS g p l) : ∃ j i, j < gp g ∧ j < 6 ∧ i < 12 ∧ p = nI j ∧ l = nI i ∧ ix p = j ∧ ix l = i ∧ stB ((RSk g).1 j) i = true := by
  obtain ⟨j, hj, hj6, ej⟩ := isP_ex ho h.1.1
  obtain ⟨i, hi, ei⟩ := isL_ex h.1.2
  have e1 : ix p = j := by rw [ej]; exact ix_nI (by omega)
  have e2 : ix l = i := by rw [ei]; exact ix_nI (by omega)
  refine ⟨j, i, hj, hj6, hi, ej, ei, e1, e2, ?_⟩
  have := h.2
  rwa [e1, e2] at this
theorem RkS_fr {w w' : St} {PP : Nat → Nat → Int32} {hd : Nat → Bool} {be en : Nat → Nat} {T : Nat → Prop} (h : RkS w PP hd be en) (hf : Fr w w' T) (hT : ∀ z, T z → z < 210 ∨ 213 < z) : RkS w' PP hd be en := by
  obtain ⟨a, b, c⟩ := h
  have h0 := hf.2 210 (fun z => by have := hT _ z; omega)
  have h1 := hf.2 211 (fun z => by have := hT _ z; omega)
  have h2 := hf.2 212 (fun z => by have := hT _ z; omega)
  have h3 := hf.2 213 (fun z => by have := hT _ z; omega)
  exact ⟨fun k hk => by rw [h1, h2]; exact a k hk, fun k hk hs M hM => by rw [h3]; exact b k hk hs M hM, fun i hi => by rw [h0]; exact c i hi⟩
theorem RkT.tk2 {w : St} {q P : Nat} {S : RS} {mst : Int32} {be en : Nat → Nat} {QQ : Nat → Nat → Int32} (h : RkT w q S P mst be en) (ha : agP QQ (S.1 P)) (hg : gdS S) (hP : P < 6) {k : Nat} (hk : k < 12) (hs : stB (S.1 P) k = true) {d : Nat} (hd : d < 3600) : tkN (ix (QQ k 6)) (mtN QQ k) (tlN QQ k (ctB QQ (heldF w q mst) be en k) (d + 1)).2.1 (tlN QQ k (ctB QQ (heldF w q mst) be en k) (d + 1)).2.2 = tkS S P mst k d := by
  unfold tkS
  have e : tlN QQ k (ctB QQ (heldF w q mst) be en k) (d + 1) = tlN (S.1 P) k (ctN S P mst k) (d + 1) := by
    rw [tlN_ag ha hk]
    unfold tlN
    refine runT_cong (fun x hx => ?_)
    rw [ctB_ag ha, ctB_hd (h.2.1.held hg.2 hP mst (by omega)), (sol_tie hg hP h.2.2.2.2 hk hs).2.2]
  rw [e, mtN_ag ha hk, ha k hk 6 (by omega)]
theorem nvI_if (x : Nat) (h : x ≤ 3600 ∨ x = 100000) : (nI x = 100000 ↔ x = 100000) := nI_eq (b := 100000) (by omega) (by decide)
theorem whyS_1 {g : Sg} {p l d : Int32} (h : ¬ ((isP g p ∧ isL l) ∧ isD d)) : whyS g p l d = -1 := if_pos h
theorem whyS_cs (g : Sg) (p l d : Int32) : whyS g p l d = 6 ∨ whyS g p l d = 4 ∨ whyS g p l d = 1 ∨ whyS g p l d = -1 ∨ whyS g p l d = 7 ∨ whyS g p l d = 3 ∨ whyS g p l d = 2 ∨ whyS g p l d = 0 ∨ whyS g p l d = 5 := by
  unfold whyS
  repeat' split
  all_goals simp
theorem bt_u {b : Int32} {i : Nat} (h : i < 32) : (((b.toUInt32 >>> ((nI i).toUInt32 &&& Int32.toUInt32 31)).toInt32) &&& 1 = 0) ↔ bt b i = false := by
  rw [bt_and1, b_ushr i h b 0, Nat.add_zero]
theorem fb_ct_z {p : Nat → Bool} : ∀ {n : Nat}, (∀ i, i < n → p i = false) → fb_ct p n = 0
  | 0, _ => rfl
  | n + 1, h => by
    rw [fb_ct_succ, fb_ct_z (fun i hi => h i (by omega)), h n (by omega)]
    rfl
abbrev T_X7_kind : Tr := fun lay av w Po => ∃ (g : Sg) (p l : Int32), av = [.ref (lay 0), .int p, .int l] ∧ (CI g w) ∧ (okS g) ∧ ∀ w' : St, CI g w' → FrM w w' → Po (some (.int (kindS g p l))) w'
set_option maxRecDepth 100000 in
set_option maxHeartbeats 4000000 in
theorem c_X7_kind : Ct yX7_kind cX7_kind 4 (some .int) 6 0 0 T_X7_kind := by
  refine Ct.mk (by decide +kernel) ?_
  intro X av w Po hX hR hT
  obtain ⟨g, p, l, rfl, hC, ho, h⟩ := hT
  refine ⟨rfl, ?_⟩
  show A X 0 0 0 [some (.ref (xlay X 0)), some (.int p), some (.int l), none] [] w
  refine a_aload_n hX dX7_kind_0 rfl ?_
  refine a_aload_n hX dX7_kind_1 rfl ?_
  refine a_callV [] hX c_X7_known mi_X7_known mv_X7_known se_X7_known (klt rfl (by decide)) (adr_lt (kd_lt rfl (by decide))) (cell_7 rfl) rfl li_X7_169 (by decide) rfl rfl (Nat.le_of_ble_eq_true rfl) (fun q => q) dX7_kind_2 ⟨_, rfl, (by assumption), (by assumption), ?_⟩
  intro w2 r2 hr2 hg2 hC2 hf2
  · have hkr2 := kd_r hr2
    have hm2 := hf2.M (fun z hz => by omega)
    refine a_iload_n hX dX7_kind_5 rfl ?_
    refine a_iload_n hX dX7_kind_6 rfl ?_
    refine a_callV [_, _, _] hX c_X7_placeOf mi_X7_placeOf mv_X7_placeOf se_X7_placeOf (klt rfl (by decide)) (adr_lt (kd_lt rfl (by decide))) (cell_7 rfl) rfl li_X7_93 (by decide) rfl rfl (Nat.le_of_ble_eq_true rfl) (fun q => q) dX7_kind_7 ⟨_, (gp g), _, _, rfl, hkr2, hC2.1.1.2.1, ho.1.2.1, ?_⟩
    refine ⟨fun j7 i7 hj7 hj67 hi7 e7 f7 => ?_, fun hn7 => ?_⟩
    · subst e7 f7
      refine a_astore_n (ls' := [_, _, _, _]) hX dX7_kind_10 (Nat.le_of_ble_eq_true rfl) rfl ?_
      refine a_aload_n hX dX7_kind_11 rfl ?_
      refine a_ifnonnull 19 hX dX7_kind_12 (by decide) ?_
      refine a_aload_n hX dX7_kind_19 rfl ?_
      refine gf_X7_97 (K1_p (K4_f (show kd r2 = 4 by first | rfl | assumption) hj67) hi7) hX dX7_kind_20 ?_
      refine a_iret hX hR dX7_kind_23 ⟨Nat.le_refl _, Nat.le_refl _⟩ rfl ?_
      first
      | exact po_int (h w2 hC2 hm2) (show kindS g p l = _ by unfold kindS; rw [if_neg hn7])
      | exact po_int (h w2 hC2 hm2) (by unfold kindS pl; rw [if_pos ⟨isP_nI ho.1.2.1 hj7, isL_nI hi7⟩, ix_nI (by omega), ix_nI (by omega)]; exact ((hg2 j7 hj67).1 i7 hi7 0 (by decide)).symm)
    · refine a_astore_nN (ls' := [_, _, _, _]) hX dX7_kind_10 (Nat.le_of_ble_eq_true rfl) rfl ?_
      refine a_aload_nN hX dX7_kind_11 rfl ?_
      refine a_ifnonnullN hX dX7_kind_12 ?_
      refine a_iconst (-1) hX dX7_kind_15 (by decide) ?_
      refine a_goto 23 hX dX7_kind_16 (by decide) ?_
      refine a_iret hX hR dX7_kind_23 ⟨Nat.le_refl _, Nat.le_refl _⟩ rfl ?_
      first
      | exact po_int (h w2 hC2 hm2) (show kindS g p l = _ by unfold kindS; rw [if_neg hn7])
      | exact po_int (h w2 hC2 hm2) (by unfold kindS pl; rw [if_pos ⟨isP_nI ho.1.2.1 hj7, isL_nI hi7⟩, ix_nI (by omega), ix_nI (by omega)]; exact ((hg2 j7 hj67).1 i7 hi7 0 (by decide)).symm)
abbrev T_X7_begins : Tr := fun lay av w Po => ∃ (g : Sg) (p l m : Int32), av = [.ref (lay 0), .int p, .int l, .int m] ∧ (CI g w) ∧ (okS g) ∧ ∀ w' : St, CI g w' → FrM w w' → Po (some (.int (beginsS g p l m))) w'
set_option maxRecDepth 100000 in
set_option maxHeartbeats 4000000 in
theorem c_X7_begins : Ct yX7_begins cX7_begins 4 (some .int) 7 0 0 T_X7_begins := by
  refine Ct.mk (by decide +kernel) ?_
  intro X av w Po hX hR hT
  obtain ⟨g, p, l, m, rfl, hC, ho, h⟩ := hT
  refine ⟨rfl, ?_⟩
  show A X 0 0 0 [some (.ref (xlay X 0)), some (.int p), some (.int l), some (.int m)] [] w
  refine a_aload_n hX dX7_begins_0 rfl ?_
  refine a_iload_n hX dX7_begins_1 rfl ?_
  refine a_iload_n hX dX7_begins_2 rfl ?_
  refine a_iload_n hX dX7_begins_3 rfl ?_
  refine a_callV [_, _, _] hX c_X7_reckonOrder mi_X7_reckonOrder mv_X7_reckonOrder se_X7_reckonOrder (klt rfl (by decide)) (adr_lt (kd_lt rfl (by decide))) (cell_7 rfl) rfl li_X7_173 (by decide) rfl rfl (Nat.le_of_ble_eq_true rfl) (fun q => q) dX7_begins_4 ⟨_, _, _, _, rfl, hC, ho, ?_⟩
  intro w4 hC4 hm4 hk4
  refine a_if_eq_b 24 hX dX7_begins_7 (by decide) (fun c_7 => ?_) (fun c_7 => ?_)
  · refine a_iconst (-1) hX dX7_begins_24 (by decide) ?_
    refine a_iret hX hR dX7_begins_25 ⟨Nat.le_refl _, Nat.le_refl _⟩ rfl ?_
    first
    | exact po_int (h w4 hC4 hm4) (show beginsS g (nI j) (nI i) m = _ by unfold beginsS; rw [if_pos c_7, hjx, hix]; exact (dyI_if (by rw [← htie.1]; exact (hk.2.2.2.1 i hi).1)).symm)
    | exact po_int (h w4 hC4 hm4) (show beginsS g p l m = _ by unfold beginsS; rw [if_neg c_7])
  · obtain ⟨j, i, hjg, hj6, hi, rfl, rfl, hjx, hix, hsB⟩ := ordS_ex ho c_7
    obtain ⟨q, be, en, hk⟩ := hk4 c_7
    rw [hjx] at hk
    have htie := sol_tie ho.k hj6 hk.2.2.2.2 hi hsB
    refine a_aload_n hX dX7_begins_10 rfl ?_
    refine gf_X7_41 rfl hX dX7_begins_11 ?_
    refine a_iload_n hX dX7_begins_14 rfl ?_
    refine a_callV [_] hX c_X3_beginOf mi_X3_beginOf mv_X3_beginOf se_X3_beginOf (klt rfl (by decide)) (adr_lt (kd_lt rfl (by decide))) (cell_3 rfl) rfl li_X7_177 (by decide) rfl rfl (Nat.le_of_ble_eq_true rfl) (fun q => q) dX7_begins_15 ⟨_, rfl, hi, ?_⟩
    rw [show w4.1 211 i = nI (beN (RSk g) j m i) from by rw [← htie.1]; exact (hk.2.2.1.1 i hi).1]
    refine a_callS [_] hX c_X7_dayOrNone mi_X7_dayOrNone ms_X7_dayOrNone li_X7_180 (by decide) rfl rfl (Nat.le_of_ble_eq_true rfl) (fun q => q) dX7_begins_18 ⟨_, rfl, ?_⟩
    refine a_goto 25 hX dX7_begins_21 (by decide) ?_
    refine a_iret hX hR dX7_begins_25 ⟨Nat.le_refl _, Nat.le_refl _⟩ rfl ?_
    first
    | exact po_int (h w4 hC4 hm4) (show beginsS g (nI j) (nI i) m = _ by unfold beginsS; rw [if_pos c_7, hjx, hix]; exact (dyI_if (by rw [← htie.1]; exact (hk.2.2.2.1 i hi).1)).symm)
    | exact po_int (h w4 hC4 hm4) (show beginsS g p l m = _ by unfold beginsS; rw [if_neg c_7])
abbrev T_X7_ends : Tr := fun lay av w Po => ∃ (g : Sg) (p l m : Int32), av = [.ref (lay 0), .int p, .int l, .int m] ∧ (CI g w) ∧ (okS g) ∧ ∀ w' : St, CI g w' → FrM w w' → Po (some (.int (endsS g p l m))) w'
set_option maxRecDepth 100000 in
set_option maxHeartbeats 4000000 in
theorem c_X7_ends : Ct yX7_ends cX7_ends 4 (some .int) 7 0 0 T_X7_ends := by
  refine Ct.mk (by decide +kernel) ?_
  intro X av w Po hX hR hT
  obtain ⟨g, p, l, m, rfl, hC, ho, h⟩ := hT
  refine ⟨rfl, ?_⟩
  show A X 0 0 0 [some (.ref (xlay X 0)), some (.int p), some (.int l), some (.int m)] [] w
  refine a_aload_n hX dX7_ends_0 rfl ?_
  refine a_iload_n hX dX7_ends_1 rfl ?_
  refine a_iload_n hX dX7_ends_2 rfl ?_
  refine a_iload_n hX dX7_ends_3 rfl ?_
  refine a_callV [_, _, _] hX c_X7_reckonOrder mi_X7_reckonOrder mv_X7_reckonOrder se_X7_reckonOrder (klt rfl (by decide)) (adr_lt (kd_lt rfl (by decide))) (cell_7 rfl) rfl li_X7_173 (by decide) rfl rfl (Nat.le_of_ble_eq_true rfl) (fun q => q) dX7_ends_4 ⟨_, _, _, _, rfl, hC, ho, ?_⟩
  intro w4 hC4 hm4 hk4
  refine a_if_eq_b 24 hX dX7_ends_7 (by decide) (fun c_7 => ?_) (fun c_7 => ?_)
  · refine a_iconst (-1) hX dX7_ends_24 (by decide) ?_
    refine a_iret hX hR dX7_ends_25 ⟨Nat.le_refl _, Nat.le_refl _⟩ rfl ?_
    first
    | exact po_int (h w4 hC4 hm4) (show endsS g (nI j) (nI i) m = _ by unfold endsS; rw [if_pos c_7, hjx, hix]; exact (dyI_if (by rw [← htie.2.1]; exact (hk.2.2.2.1 i hi).2)).symm)
    | exact po_int (h w4 hC4 hm4) (show endsS g p l m = _ by unfold endsS; rw [if_neg c_7])
  · obtain ⟨j, i, hjg, hj6, hi, rfl, rfl, hjx, hix, hsB⟩ := ordS_ex ho c_7
    obtain ⟨q, be, en, hk⟩ := hk4 c_7
    rw [hjx] at hk
    have htie := sol_tie ho.k hj6 hk.2.2.2.2 hi hsB
    refine a_aload_n hX dX7_ends_10 rfl ?_
    refine gf_X7_41 rfl hX dX7_ends_11 ?_
    refine a_iload_n hX dX7_ends_14 rfl ?_
    refine a_callV [_] hX c_X3_endOf mi_X3_endOf mv_X3_endOf se_X3_endOf (klt rfl (by decide)) (adr_lt (kd_lt rfl (by decide))) (cell_3 rfl) rfl li_X7_183 (by decide) rfl rfl (Nat.le_of_ble_eq_true rfl) (fun q => q) dX7_ends_15 ⟨_, rfl, hi, ?_⟩
    rw [show w4.1 212 i = nI (eeN (RSk g) j m i) from by rw [← htie.2.1]; exact (hk.2.2.1.1 i hi).2]
    refine a_callS [_] hX c_X7_dayOrNone mi_X7_dayOrNone ms_X7_dayOrNone li_X7_180 (by decide) rfl rfl (Nat.le_of_ble_eq_true rfl) (fun q => q) dX7_ends_18 ⟨_, rfl, ?_⟩
    refine a_goto 25 hX dX7_ends_21 (by decide) ?_
    refine a_iret hX hR dX7_ends_25 ⟨Nat.le_refl _, Nat.le_refl _⟩ rfl ?_
    first
    | exact po_int (h w4 hC4 hm4) (show endsS g (nI j) (nI i) m = _ by unfold endsS; rw [if_pos c_7, hjx, hix]; exact (dyI_if (by rw [← htie.2.1]; exact (hk.2.2.2.1 i hi).2)).symm)
    | exact po_int (h w4 hC4 hm4) (show endsS g p l m = _ by unfold endsS; rw [if_neg c_7])
abbrev T_X7_counted : Tr := fun lay av w Po => ∃ (g : Sg) (p l d m : Int32), av = [.ref (lay 0), .int p, .int l, .int d, .int m] ∧ (CI g w) ∧ (okS g) ∧ ∀ w' : St, CI g w' → FrM w w' → Po (some (.int (countedS g p l d m))) w'
set_option maxRecDepth 100000 in
set_option maxHeartbeats 4000000 in
theorem c_X7_counted : Ct yX7_counted cX7_counted 5 (some .int) 7 0 0 T_X7_counted := by
  refine Ct.mk (by decide +kernel) ?_
  intro X av w Po hX hR hT
  obtain ⟨g, p, l, d, m, rfl, hC, ho, h⟩ := hT
  refine ⟨rfl, ?_⟩
  show A X 0 0 0 [some (.ref (xlay X 0)), some (.int p), some (.int l), some (.int d), some (.int m)] [] w
  refine a_iload_n hX dX7_counted_0 rfl ?_
  refine a_callS [_] hX c_X7_isDay mi_X7_isDay ms_X7_isDay li_X7_52 (by decide) rfl rfl (Nat.le_of_ble_eq_true rfl) (fun q => q) dX7_counted_1 ⟨_, rfl, ?_⟩
  refine a_if_eq_b 18 hX dX7_counted_4 (by decide) (fun c_4 => ?_) (fun c_4 => ?_)
  · refine a_iconst (-1) hX dX7_counted_18 (by decide) ?_
    refine a_iret hX hR dX7_counted_19 ⟨Nat.le_refl _, Nat.le_refl _⟩ rfl ?_
    first | exact po_int (h w hC FrM.rf) (by unfold countedS; rw [if_neg (fun z => c_4 z.1)]) | exact po_int (h w12 hC12 hm12) (by unfold countedS; rw [if_neg (fun z => c_15 z.2)])
  · refine a_aload_n hX dX7_counted_7 rfl ?_
    refine a_iload_n hX dX7_counted_8 rfl ?_
    refine a_iload_n hX dX7_counted_9 rfl ?_
    refine a_iload hX dX7_counted_10 rfl ?_
    refine a_callV [_, _, _] hX c_X7_reckonOrder mi_X7_reckonOrder mv_X7_reckonOrder se_X7_reckonOrder (klt rfl (by decide)) (adr_lt (kd_lt rfl (by decide))) (cell_7 rfl) rfl li_X7_173 (by decide) rfl rfl (Nat.le_of_ble_eq_true rfl) (fun q => q) dX7_counted_12 ⟨_, _, _, _, rfl, hC, ho, ?_⟩
    intro w12 hC12 hm12 hk12
    refine a_if_ne_b 20 hX dX7_counted_15 (by decide) (fun c_15 => ?_) (fun c_15 => ?_)
    · obtain ⟨j, i, hjg, hj6, hi, rfl, rfl, hjx, hix, hsB⟩ := ordS_ex ho c_15
      obtain ⟨q, be, en, hk⟩ := hk12 c_15
      rw [hjx] at hk
      have htie := sol_tie ho.k hj6 hk.2.2.2.2 hi hsB
      obtain ⟨x, hx, rfl⟩ := isD_ex c_4
      refine a_aload_n hX dX7_counted_20 rfl ?_
      refine gf_X7_41 rfl hX dX7_counted_21 ?_
      refine a_iload_n hX dX7_counted_24 rfl ?_
      refine a_iload_n hX dX7_counted_25 rfl ?_
      refine a_callV [_, _] hX c_X3_countedUpTo mi_X3_countedUpTo mv_X3_countedUpTo se_X3_countedUpTo (klt rfl (by decide)) (adr_lt (kd_lt rfl (by decide))) (cell_3 rfl) rfl li_X7_186 (by decide) rfl rfl (Nat.le_of_ble_eq_true rfl) (fun q => q) dX7_counted_26 ⟨_, _, _, _, _, _, rfl, hi, (by rw [stB_ag hk.2.1.ag hi]; exact hsB), hk.2.2.1, hx, ?_⟩
      rw [hk.cd ho.k hj6 hi hsB hx]
      refine a_iret hX hR dX7_counted_29 ⟨Nat.le_refl _, Nat.le_refl _⟩ rfl ?_
      exact po_int (h w12 hC12 hm12) (by unfold countedS; rw [if_pos ⟨c_4, c_15⟩, hjx, hix, ix_nI (by omega)])
    · refine a_iconst (-1) hX dX7_counted_18 (by decide) ?_
      refine a_iret hX hR dX7_counted_19 ⟨Nat.le_refl _, Nat.le_refl _⟩ rfl ?_
      first | exact po_int (h w hC FrM.rf) (by unfold countedS; rw [if_neg (fun z => c_4 z.1)]) | exact po_int (h w12 hC12 hm12) (by unfold countedS; rw [if_neg (fun z => c_15 z.2)])
abbrev T_X7_taken : Tr := fun lay av w Po => ∃ (g : Sg) (p l d : Int32), av = [.ref (lay 0), .int p, .int l, .int d] ∧ (CI g w) ∧ (okS g) ∧ ∀ w' : St, CI g w' → FrM w w' → Po (some (.int (takenS g p l d))) w'
set_option maxRecDepth 100000 in
set_option maxHeartbeats 4000000 in
theorem c_X7_taken : Ct yX7_taken cX7_taken 4 (some .int) 7 0 0 T_X7_taken := by
  refine Ct.mk (by decide +kernel) ?_
  intro X av w Po hX hR hT
  obtain ⟨g, p, l, d, rfl, hC, ho, h⟩ := hT
  refine ⟨rfl, ?_⟩
  show A X 0 0 0 [some (.ref (xlay X 0)), some (.int p), some (.int l), some (.int d)] [] w
  refine a_iload_n hX dX7_taken_0 rfl ?_
  refine a_callS [_] hX c_X7_isDay mi_X7_isDay ms_X7_isDay li_X7_52 (by decide) rfl rfl (Nat.le_of_ble_eq_true rfl) (fun q => q) dX7_taken_1 ⟨_, rfl, ?_⟩
  refine a_if_eq_b 17 hX dX7_taken_4 (by decide) (fun c_4 => ?_) (fun c_4 => ?_)
  · refine a_iconst (-1) hX dX7_taken_17 (by decide) ?_
    refine a_iret hX hR dX7_taken_18 ⟨Nat.le_refl _, Nat.le_refl _⟩ rfl ?_
    first | exact po_int (h w hC FrM.rf) (by unfold takenS; rw [if_neg (fun z => c_4 z.1)]) | exact po_int (h w11 hC11 hm11) (by unfold takenS; rw [if_neg (fun z => c_14 z.2)])
  · refine a_aload_n hX dX7_taken_7 rfl ?_
    refine a_iload_n hX dX7_taken_8 rfl ?_
    refine a_iload_n hX dX7_taken_9 rfl ?_
    refine a_iconst (0) hX dX7_taken_10 (by decide) ?_
    refine a_callV [_, _, _] hX c_X7_reckonOrder mi_X7_reckonOrder mv_X7_reckonOrder se_X7_reckonOrder (klt rfl (by decide)) (adr_lt (kd_lt rfl (by decide))) (cell_7 rfl) rfl li_X7_173 (by decide) rfl rfl (Nat.le_of_ble_eq_true rfl) (fun q => q) dX7_taken_11 ⟨_, _, _, _, rfl, hC, ho, ?_⟩
    intro w11 hC11 hm11 hk11
    refine a_if_ne_b 19 hX dX7_taken_14 (by decide) (fun c_14 => ?_) (fun c_14 => ?_)
    · refine a_aload_n hX dX7_taken_19 rfl ?_
      refine gf_X7_41 rfl hX dX7_taken_20 ?_
      refine a_aload_n hX dX7_taken_23 rfl ?_
      refine a_aload_n hX dX7_taken_24 rfl ?_
      refine a_callV [] hX c_X7_known mi_X7_known mv_X7_known se_X7_known (klt rfl (by decide)) (adr_lt (kd_lt rfl (by decide))) (cell_7 rfl) rfl li_X7_169 (by decide) rfl rfl (Nat.le_of_ble_eq_true rfl) (fun q => q) dX7_taken_25 ⟨_, rfl, hC11, ho, ?_⟩
      intro w25 r25 hr25 hg25 hC25 hf25
      · have hkr25 := kd_r hr25
        have hm25 := hf25.M (fun z hz => by omega)
        refine a_iload_n hX dX7_taken_28 rfl ?_
        refine a_iload_n hX dX7_taken_29 rfl ?_
        refine a_callV [_, _, _] hX c_X7_placeOf mi_X7_placeOf mv_X7_placeOf se_X7_placeOf (klt rfl (by decide)) (adr_lt (kd_lt rfl (by decide))) (cell_7 rfl) rfl li_X7_93 (by decide) rfl rfl (Nat.le_of_ble_eq_true rfl) (fun q => q) dX7_taken_30 ⟨_, (gp g), _, _, rfl, hkr25, hC25.1.1.2.1, ho.1.2.1, ?_⟩
        refine ⟨fun j30 i30 hj30 hj630 hi30 e30 f30 => ?_, fun hn30 => ?_⟩
        · subst e30 f30
          have hjx : ix (nI j30) = j30 := ix_nI (by omega)
          have hix : ix (nI i30) = i30 := ix_nI (by omega)
          obtain ⟨q, be, en, hk⟩ := hk11 c_14
          rw [hjx] at hk
          have hsB : stB ((RSk g).1 j30) i30 = true := by
            have h9 := c_14.2
            rwa [hjx, hix] at h9
          have hag := (hg25 j30 hj630).ag
          obtain ⟨x, hx, rfl⟩ := isD_ex c_4
          refine a_iload_n hX dX7_taken_33 rfl ?_
          refine a_iload_n hX dX7_taken_34 rfl ?_
          refine a_callV [_, _, _] hX c_X3_takenUpTo mi_X3_takenUpTo mv_X3_takenUpTo se_X3_takenUpTo (klt rfl (by decide)) (adr_lt (kd_lt rfl (by decide))) (cell_3 rfl) rfl li_X7_139 (by decide) rfl rfl (Nat.le_of_ble_eq_true rfl) (fun q => q) dX7_taken_35 ⟨_, _, _, (heldF w11 q 0), be, en, rfl, (K4_f hkr25 hj630), hi30, (vP_ag hag.symm (ho.k.1 j30 hj630).1), (by rw [stB_ag hag hi30]; exact hsB), (RkS_ag hag.symm (RkS_fr (RkS_ag hk.2.1.ag hk.2.2.1) hf25 (fun z hz => by omega))), hx, ?_⟩
          intro w35 hf35
          rw [hk.tk2 hag ho.k hj630 hi30 hsB hx]
          refine a_iret hX hR dX7_taken_38 ⟨Nat.le_refl _, Nat.le_refl _⟩ rfl ?_
          exact po_int (h w35 (hC25.fr hf35 (fun z hz => by omega)) ((hm11.tr hm25).tr (hf35.M (fun z hz => by omega)))) (by unfold takenS; rw [if_pos ⟨c_4, c_14⟩, hjx, hix, ix_nI (by omega)])
        · exact absurd c_14.1 hn30
    · refine a_iconst (-1) hX dX7_taken_17 (by decide) ?_
      refine a_iret hX hR dX7_taken_18 ⟨Nat.le_refl _, Nat.le_refl _⟩ rfl ?_
      first | exact po_int (h w hC FrM.rf) (by unfold takenS; rw [if_neg (fun z => c_4 z.1)]) | exact po_int (h w11 hC11 hm11) (by unfold takenS; rw [if_neg (fun z => c_14 z.2)])
abbrev T_X7_why : Tr := fun lay av w Po => ∃ (g : Sg) (p l d : Int32), av = [.ref (lay 0), .int p, .int l, .int d] ∧ (CI g w) ∧ (okS g) ∧ ∀ w' : St, CI g w' → FrM w w' → Po (some (.int (whyS g p l d))) w'
set_option maxRecDepth 100000 in
set_option maxHeartbeats 4000000 in
theorem c_X7_why : Ct yX7_why cX7_why 6 (some .int) 6 0 0 T_X7_why := by
  refine Ct.mk (by decide +kernel) ?_
  intro X av w Po hX hR hT
  obtain ⟨g, p, l, d, rfl, hC, ho, h⟩ := hT
  refine ⟨rfl, ?_⟩
  show A X 0 0 0 [some (.ref (xlay X 0)), some (.int p), some (.int l), some (.int d), none, none] [] w
  refine a_aload_n hX dX7_why_0 rfl ?_
  refine a_aload_n hX dX7_why_1 rfl ?_
  refine a_callV [] hX c_X7_known mi_X7_known mv_X7_known se_X7_known (klt rfl (by decide)) (adr_lt (kd_lt rfl (by decide))) (cell_7 rfl) rfl li_X7_169 (by decide) rfl rfl (Nat.le_of_ble_eq_true rfl) (fun q => q) dX7_why_2 ⟨_, rfl, (by assumption), (by assumption), ?_⟩
  intro w2 r2 hr2 hg2 hC2 hf2
  · have hkr2 := kd_r hr2
    have hm2 := hf2.M (fun z hz => by omega)
    refine a_iload_n hX dX7_why_5 rfl ?_
    refine a_callV [_, _] hX c_X7_fileOf mi_X7_fileOf mv_X7_fileOf se_X7_fileOf (klt rfl (by decide)) (adr_lt (kd_lt rfl (by decide))) (cell_7 rfl) rfl li_X7_112 (by decide) rfl rfl (Nat.le_of_ble_eq_true rfl) (fun q => q) dX7_why_6 ⟨_, (gp g), _, rfl, hkr2, hC2.1.1.2.1, ho.1.2.1, ?_⟩
    refine ⟨fun j6 hj6 hj66 e6 => ?_, fun hn6 => ?_⟩
    · subst e6
      refine a_astore (ls' := [_, _, _, _, _, _]) hX dX7_why_9 (Nat.le_of_ble_eq_true rfl) rfl ?_
      refine a_aload hX dX7_why_11 rfl ?_
      refine a_ifnonnull 20 hX dX7_why_13 (by decide) ?_
      refine a_aload hX dX7_why_20 rfl ?_
      refine a_iload_n hX dX7_why_22 rfl ?_
      rcases rng_cs l 12 (by decide) with ⟨i, hi, rfl⟩ | hnl
      · refine a_callV [_] hX c_X1_at mi_X1_at mv_X1_at se_X1_at (klt (K4_f (show kd r2 = 4 by first | rfl | assumption) hj66) (by decide)) (adr_lt (kd_lt (K4_f (show kd r2 = 4 by first | rfl | assumption) hj66) (by decide))) (cell_1 (K4_f (show kd r2 = 4 by first | rfl | assumption) hj66)) rfl li_X7_131 (by decide) rfl rfl (Nat.le_of_ble_eq_true rfl) (fun q => q) dX7_why_23 ⟨_, _, rfl, K4_f hkr2 hj66, Or.inl ⟨i, hi, rfl, ?_⟩⟩
        refine a_astore (ls' := [_, _, _, _, _, _]) hX dX7_why_26 (Nat.le_of_ble_eq_true rfl) rfl ?_
        refine a_aload hX dX7_why_28 rfl ?_
        refine a_ifnull hX dX7_why_30 ?_
        refine a_iload_n hX dX7_why_33 rfl ?_
        refine a_callS [_] hX c_X7_isDay mi_X7_isDay ms_X7_isDay li_X7_52 (by decide) rfl rfl (Nat.le_of_ble_eq_true rfl) (fun q => q) dX7_why_34 ⟨_, rfl, ?_⟩
        refine a_if_ne_b 42 hX dX7_why_37 (by decide) (fun c_37 => ?_) (fun c_37 => ?_)
        · have hF := hg2 j6 hj66
          have hjx : ix (nI j6) = j6 := ix_nI (by omega)
          have hix : ix (nI i) = i := ix_nI (by omega)
          have hip := isP_nI ho.1.2.1 hj6
          have hil := isL_nI hi
          have hpl : ∀ k, k < 9 → pl (RSk g) (nI j6) (nI i) k = w2.1 (r2 + 1 + 1 + 17 * j6 + 1 + 4 + i) k := fun k hk => by
            unfold pl
            rw [hjx, hix, hF.1 i hi k hk]
          have hp0 := hpl 0 (by decide)
          have hp5 := hpl 5 (by decide)
          obtain ⟨x, hx, rfl⟩ := isD_ex c_37
          have hxx : ix (nI x) = x := ix_nI (by omega)
          refine a_aload hX dX7_why_42 rfl ?_
          refine a_callV [] hX c_X2_runs mi_X2_runs mv_X2_runs se_X2_runs (klt (K1_p (K4_f hkr2 hj66) hi) (by decide)) (adr_lt (kd_lt (K1_p (K4_f hkr2 hj66) hi) (by decide))) (cell_2 (K1_p (K4_f hkr2 hj66) hi)) rfl li_X7_189 (by decide) rfl rfl (Nat.le_of_ble_eq_true rfl) (fun q => q) dX7_why_44 ⟨_, rfl, (K1_p (K4_f hkr2 hj66) hi), ?_⟩
          refine a_if_ne_b 53 hX dX7_why_47 (by decide) (fun c_47 => ?_) (fun c_47 => ?_)
          · have hr47 : 2 ≤ pl (RSk g) (nI j6) (nI i) 0 ∧ pl (RSk g) (nI j6) (nI i) 0 ≤ 5 := by rw [hp0]; exact c_47
            refine a_aload hX dX7_why_53 rfl ?_
            refine a_callV [] hX c_X2_isQuashed mi_X2_isQuashed mv_X2_isQuashed se_X2_isQuashed (klt (K1_p (K4_f hkr2 hj66) hi) (by decide)) (adr_lt (kd_lt (K1_p (K4_f hkr2 hj66) hi) (by decide))) (cell_2 (K1_p (K4_f hkr2 hj66) hi)) rfl li_X7_102 (by decide) rfl rfl (Nat.le_of_ble_eq_true rfl) (fun q => q) dX7_why_55 ⟨_, rfl, (K1_p (K4_f hkr2 hj66) hi), ?_⟩
            refine a_if_eq_b 64 hX dX7_why_58 (by decide) (fun c_58 => ?_) (fun c_58 => ?_)
            · have hq55 : pl (RSk g) (nI j6) (nI i) 5 = -1 := by rw [hp5]; exact Decidable.not_not.mp c_58
              have hsB : stB ((RSk g).1 j6) i = true := by
                unfold stB
                rw [decide_eq_true_eq, ← hF.1 i hi 0 (by decide), ← hF.1 i hi 5 (by decide), ← hp0, ← hp5]
                exact ⟨hr47, hq55⟩
              refine a_aload_n hX dX7_why_64 rfl ?_
              refine gf_X7_41 rfl hX dX7_why_65 ?_
              refine a_aload hX dX7_why_68 rfl ?_
              refine a_iconst (0) hX dX7_why_70 (by decide) ?_
              refine a_callV [_, _] hX c_X3_reckon mi_X3_reckon mv_X3_reckon se_X3_reckon (klt rfl (by decide)) (adr_lt (kd_lt rfl (by decide))) (cell_3 rfl) rfl li_X7_135 (by decide) rfl rfl (Nat.le_of_ble_eq_true rfl) (fun q => q) dX7_why_71 ⟨_, _, rfl, (K4_f hkr2 hj66), (hF.pre ho.k hj66).1, (hF.pre ho.k hj66).2.1, (hF.pre ho.k hj66).2.2, ?_⟩
              intro w71 be en hf71 hs71 hr71 hb71 _
              have hk := RkT.mk2 (K4_f hkr2 hj66) hF ho.k hj66 hf71 hs71 hr71 hb71
              have hC71 := hC2.fr hf71 (fun z hz => by omega)
              have hm71 : FrM w w71 := hm2.tr (hf71.M (fun z hz => by omega))
              refine a_aload_n hX dX7_why_74 rfl ?_
              refine gf_X7_41 rfl hX dX7_why_75 ?_
              refine a_iload_n hX dX7_why_78 rfl ?_
              refine a_callV [_] hX c_X3_endOf mi_X3_endOf mv_X3_endOf se_X3_endOf (klt rfl (by decide)) (adr_lt (kd_lt rfl (by decide))) (cell_3 rfl) rfl li_X7_183 (by decide) rfl rfl (Nat.le_of_ble_eq_true rfl) (fun q => q) dX7_why_79 ⟨_, rfl, hi, ?_⟩
              have htie := sol_tie ho.k hj66 hk.2.2.2.2 hi hsB
              have hbb := hk.2.2.2.1 i hi
              unfold bdN at hbb
              have hvv := (ho.k.1 j6 hj66).1
              rw [show w71.1 212 i = nI (eeN (RSk g) j6 0 i) from by rw [← htie.2.1]; exact (hk.2.2.1.1 i hi).2]
              have hcmp : nI (eeN (RSk g) j6 0 i) < nI x ↔ eeN (RSk g) j6 0 i < x := nI_ltI (by rw [← htie.2.1]; omega) (by omega)
              have hu : whyS g (nI j6) (nI i) (nI x) = if eeN (RSk g) j6 0 i < x then 3 else if hsN ((RSk g).1 j6) 6 i x 12 ≠ -1 then 4 else if hsN ((RSk g).1 j6) 7 i x 12 ≠ -1 then 1 else if x < beN (RSk g) j6 0 i then 2 else if hdN (RSk g) j6 0 x = true then 0 else 5 := by
                unfold whyS
                rw [if_neg (not_not_intro ⟨⟨hip, hil⟩, c_37⟩), if_neg (not_not_intro hr47), if_neg (not_not_intro hq55), hjx, hix, hxx]
              refine a_iload_n hX dX7_why_82 rfl ?_
              refine a_icmp_ge 88 hX dX7_why_83 (by decide) (fun c_83 => ?_) (fun c_83 => ?_)
              · have n83 : ¬ eeN (RSk g) j6 0 i < x := fun z => Int32.not_lt.mpr c_83 (hcmp.mpr z)
                refine a_aload hX dX7_why_88 rfl ?_
                refine a_bipush (6) hX dX7_why_90 (by decide) ?_
                refine a_iload_n hX dX7_why_92 rfl ?_
                refine a_iload_n hX dX7_why_93 rfl ?_
                refine a_callV [_, _, _] hX c_X1_leastOf mi_X1_leastOf mv_X1_leastOf se_X1_leastOf (klt (K4_f (show kd r2 = 4 by first | rfl | assumption) hj66) (by decide)) (adr_lt (kd_lt (K4_f (show kd r2 = 4 by first | rfl | assumption) hj66) (by decide))) (cell_1 (K4_f (show kd r2 = 4 by first | rfl | assumption) hj66)) rfl li_X7_192 (by decide) rfl rfl (Nat.le_of_ble_eq_true rfl) (fun q => q) dX7_why_94 ⟨_, _, _, _, rfl, hk.1, ?_⟩
                intro res94 hl94
                have e94 : res94 = hsN ((RSk g).1 j6) 6 i x 12 := hsN_lo hk.2.1 hvv hi hx hl94
                refine a_iconst (-1) hX dX7_why_97 (by decide) ?_
                refine a_icmp_eq 103 hX dX7_why_98 (by decide) (fun c_98 => ?_) (fun c_98 => ?_)
                · refine a_aload hX dX7_why_103 rfl ?_
                  refine a_bipush (7) hX dX7_why_105 (by decide) ?_
                  refine a_iload_n hX dX7_why_107 rfl ?_
                  refine a_iload_n hX dX7_why_108 rfl ?_
                  refine a_callV [_, _, _] hX c_X1_leastOf mi_X1_leastOf mv_X1_leastOf se_X1_leastOf (klt (K4_f (show kd r2 = 4 by first | rfl | assumption) hj66) (by decide)) (adr_lt (kd_lt (K4_f (show kd r2 = 4 by first | rfl | assumption) hj66) (by decide))) (cell_1 (K4_f (show kd r2 = 4 by first | rfl | assumption) hj66)) rfl li_X7_192 (by decide) rfl rfl (Nat.le_of_ble_eq_true rfl) (fun q => q) dX7_why_109 ⟨_, _, _, _, rfl, hk.1, ?_⟩
                  intro res109 hl109
                  have e109 : res109 = hsN ((RSk g).1 j6) 7 i x 12 := hsN_lo hk.2.1 hvv hi hx hl109
                  have n98 : ¬ hsN ((RSk g).1 j6) 6 i x 12 ≠ -1 := not_not_intro (by rw [← e94]; exact c_98)
                  refine a_iconst (-1) hX dX7_why_112 (by decide) ?_
                  refine a_icmp_eq 118 hX dX7_why_113 (by decide) (fun c_113 => ?_) (fun c_113 => ?_)
                  · refine a_aload_n hX dX7_why_118 rfl ?_
                    refine gf_X7_41 rfl hX dX7_why_119 ?_
                    refine a_iload_n hX dX7_why_122 rfl ?_
                    refine a_callV [_] hX c_X3_beginOf mi_X3_beginOf mv_X3_beginOf se_X3_beginOf (klt rfl (by decide)) (adr_lt (kd_lt rfl (by decide))) (cell_3 rfl) rfl li_X7_177 (by decide) rfl rfl (Nat.le_of_ble_eq_true rfl) (fun q => q) dX7_why_123 ⟨_, rfl, hi, ?_⟩
                    rw [show w71.1 211 i = nI (beN (RSk g) j6 0 i) from by rw [← htie.1]; exact (hk.2.2.1.1 i hi).1]
                    have n113 : ¬ hsN ((RSk g).1 j6) 7 i x 12 ≠ -1 := not_not_intro (by rw [← e109]; exact c_113)
                    have hcmb : nI (beN (RSk g) j6 0 i) ≤ nI x ↔ beN (RSk g) j6 0 i ≤ x := nI_leI (by rw [← htie.1]; omega) (by omega)
                    refine a_iload_n hX dX7_why_126 rfl ?_
                    refine a_icmp_le 132 hX dX7_why_127 (by decide) (fun c_127 => ?_) (fun c_127 => ?_)
                    · refine a_aload hX dX7_why_132 rfl ?_
                      refine a_iload_n hX dX7_why_134 rfl ?_
                      refine a_iconst (0) hX dX7_why_135 (by decide) ?_
                      refine a_callV [_, _] hX c_X1_isHeld mi_X1_isHeld mv_X1_isHeld se_X1_isHeld (klt (K4_f (show kd r2 = 4 by first | rfl | assumption) hj66) (by decide)) (adr_lt (kd_lt (K4_f (show kd r2 = 4 by first | rfl | assumption) hj66) (by decide))) (cell_1 (K4_f (show kd r2 = 4 by first | rfl | assumption) hj66)) rfl li_X7_196 (by decide) rfl rfl (Nat.le_of_ble_eq_true rfl) (fun q => q) dX7_why_136 ⟨_, _, _, rfl, hk.1, hx, ?_⟩
                      have n127 : ¬ x < beN (RSk g) j6 0 i := Nat.not_lt.mpr (hcmb.mp c_127)
                      have e136 : bt (hdW w71 (r2 + 1 + 1 + 17 * j6) (x / 30) 0) (x % 30) = hdN (RSk g) j6 0 x := hk.2.1.held ho.k.2 hj66 0 hx
                      rw [e136]
                      refine a_if_eq_b 146 hX dX7_why_139 (by decide) (fun c_139 => ?_) (fun c_139 => ?_)
                      · refine a_iconst (5) hX dX7_why_146 (by decide) ?_
                        refine a_iret hX hR dX7_why_147 ⟨Nat.le_refl _, Nat.le_refl _⟩ rfl ?_
                        exact po_int (h w71 hC71 hm71) (by rw [hu, if_neg n83, if_neg n98, if_neg n113, if_neg n127]; first | rw [if_pos c_139] | rw [if_neg c_139])
                      · refine a_iconst (0) hX dX7_why_142 (by decide) ?_
                        refine a_goto 147 hX dX7_why_143 (by decide) ?_
                        refine a_iret hX hR dX7_why_147 ⟨Nat.le_refl _, Nat.le_refl _⟩ rfl ?_
                        exact po_int (h w71 hC71 hm71) (by rw [hu, if_neg n83, if_neg n98, if_neg n113, if_neg n127]; first | rw [if_pos c_139] | rw [if_neg c_139])
                    · refine a_iconst (2) hX dX7_why_130 (by decide) ?_
                      refine a_iret hX hR dX7_why_131 ⟨Nat.le_refl _, Nat.le_refl _⟩ rfl ?_
                      exact po_int (h w71 hC71 hm71) (by rw [hu, if_neg n83, if_neg n98, if_neg n113, if_pos (Nat.not_le.mp (fun z => absurd (hcmb.mpr z) (by first | exact c_127 | exact Int32.not_le.mpr c_127)))])
                  · refine a_iconst (1) hX dX7_why_116 (by decide) ?_
                    refine a_iret hX hR dX7_why_117 ⟨Nat.le_refl _, Nat.le_refl _⟩ rfl ?_
                    exact po_int (h w71 hC71 hm71) (by rw [hu, if_neg n83, if_neg n98, if_pos (by rw [← e109]; exact c_113)])
                · refine a_iconst (4) hX dX7_why_101 (by decide) ?_
                  refine a_iret hX hR dX7_why_102 ⟨Nat.le_refl _, Nat.le_refl _⟩ rfl ?_
                  exact po_int (h w71 hC71 hm71) (by rw [hu, if_neg n83, if_pos (by rw [← e94]; exact c_98)])
              · refine a_iconst (3) hX dX7_why_86 (by decide) ?_
                refine a_iret hX hR dX7_why_87 ⟨Nat.le_refl _, Nat.le_refl _⟩ rfl ?_
                exact po_int (h w71 hC71 hm71) (by rw [hu, if_pos (hcmp.mp (lt_nle c_83))])
            · refine a_bipush (6) hX dX7_why_61 (by decide) ?_
              refine a_iret hX hR dX7_why_63 ⟨Nat.le_refl _, Nat.le_refl _⟩ rfl ?_
              exact po_int (h w2 hC2 hm2) (by unfold whyS; rw [if_neg (not_not_intro ⟨⟨hip, hil⟩, c_37⟩), if_neg (not_not_intro hr47), if_pos (by rw [hp5]; exact c_58)])
          · refine a_bipush (7) hX dX7_why_50 (by decide) ?_
            refine a_iret hX hR dX7_why_52 ⟨Nat.le_refl _, Nat.le_refl _⟩ rfl ?_
            exact po_int (h w2 hC2 hm2) (by unfold whyS; rw [if_neg (not_not_intro ⟨⟨hip, hil⟩, c_37⟩), if_pos (by rw [hp0]; exact c_47)])
        · refine a_iconst (-1) hX dX7_why_40 (by decide) ?_
          refine a_iret hX hR dX7_why_41 ⟨Nat.le_refl _, Nat.le_refl _⟩ rfl ?_
          first | exact po_int (h w2 hC2 hm2) (show whyS g _ l d = _ from whyS_1 (fun z => hnl z.1.2)) | exact po_int (h w2 hC2 hm2) (show whyS g p l d = _ from whyS_1 (fun z => hn6 z.1.1)) | exact po_int (h w2 hC2 hm2) (whyS_1 (fun z => c_37 z.2))
      · refine a_callV [_] hX c_X1_at mi_X1_at mv_X1_at se_X1_at (klt (K4_f (show kd r2 = 4 by first | rfl | assumption) hj66) (by decide)) (adr_lt (kd_lt (K4_f (show kd r2 = 4 by first | rfl | assumption) hj66) (by decide))) (cell_1 (K4_f (show kd r2 = 4 by first | rfl | assumption) hj66)) rfl li_X7_131 (by decide) rfl rfl (Nat.le_of_ble_eq_true rfl) (fun q => q) dX7_why_23 ⟨_, _, rfl, K4_f hkr2 hj66, Or.inr ⟨hnl, ?_⟩⟩
        refine a_astoreN (ls' := [_, _, _, _, _, _]) hX dX7_why_26 (Nat.le_of_ble_eq_true rfl) rfl ?_
        refine a_aloadN hX dX7_why_28 rfl ?_
        refine a_ifnullN 40 hX dX7_why_30 (by decide) ?_
        refine a_iconst (-1) hX dX7_why_40 (by decide) ?_
        refine a_iret hX hR dX7_why_41 ⟨Nat.le_refl _, Nat.le_refl _⟩ rfl ?_
        first | exact po_int (h w2 hC2 hm2) (show whyS g _ l d = _ from whyS_1 (fun z => hnl z.1.2)) | exact po_int (h w2 hC2 hm2) (show whyS g p l d = _ from whyS_1 (fun z => hn6 z.1.1)) | exact po_int (h w2 hC2 hm2) (whyS_1 (fun z => c_37 z.2))
    · refine a_astoreN (ls' := [_, _, _, _, _, _]) hX dX7_why_9 (Nat.le_of_ble_eq_true rfl) rfl ?_
      refine a_aloadN hX dX7_why_11 rfl ?_
      refine a_ifnonnullN hX dX7_why_13 ?_
      refine a_null hX dX7_why_16 ?_
      refine a_goto 26 hX dX7_why_17 (by decide) ?_
      refine a_astoreN (ls' := [_, _, _, _, _, _]) hX dX7_why_26 (Nat.le_of_ble_eq_true rfl) rfl ?_
      refine a_aloadN hX dX7_why_28 rfl ?_
      refine a_ifnullN 40 hX dX7_why_30 (by decide) ?_
      refine a_iconst (-1) hX dX7_why_40 (by decide) ?_
      refine a_iret hX hR dX7_why_41 ⟨Nat.le_refl _, Nat.le_refl _⟩ rfl ?_
      first | exact po_int (h w2 hC2 hm2) (show whyS g _ l d = _ from whyS_1 (fun z => hnl z.1.2)) | exact po_int (h w2 hC2 hm2) (show whyS g p l d = _ from whyS_1 (fun z => hn6 z.1.1)) | exact po_int (h w2 hC2 hm2) (whyS_1 (fun z => c_37 z.2))
