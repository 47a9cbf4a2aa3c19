/-! the reference: recall, check, back -/
theorem MD.r223 {g : Sg} {w : St} {i : Nat} {v : Int32} (h : MD g w) (hi : gn g ≤ i) : MD g (wset w 223 i v) := by
  obtain ⟨a, b, c, d, e⟩ := h
  refine ⟨by rw [wset_ne _ _ _ _ (by decide)]; exact a, by rw [wset_ne _ _ _ _ (by decide)]; exact b, fun x hx hc => ?_, by rw [wset_ne _ _ _ _ (by decide)]; exact d, by rw [wset_ne _ _ _ _ (by decide)]; exact e⟩
  rw [wset_1, if_neg (by omega)]
  exact c x hx hc
theorem rc_val {F gd tt : Nat} (h : gd < F) (hF : F ≤ 3600) (ht : tt ≤ 1000) : ((nI F - nI gd) * nI tt + 999) / 1000 = nI (((F - gd) * tt + 999) / 1000) := by
  have hm : (F - gd) * tt ≤ 3600 * 1000 := Nat.mul_le_mul (by omega) ht
  rw [pk_sub (by omega), pk_mul, show nI ((F - gd) * tt) + 999 = nI ((F - gd) * tt + 999) from nI_add _ 999]
  exact pk_div (d := 1000) (by omega) (by decide) (by decide)
theorem l64 {x y : Int32} : (x.toInt64 + y.toInt64).toInt = x.toInt + y.toInt := by
  have h1 := i_lo x
  have h2 := i_hi x
  have h3 := i_lo y
  have h4 := i_hi y
  rw [Int64.toInt_add, Int32.toInt_toInt64, Int32.toInt_toInt64, Int.bmod_def]
  split <;> omega
theorem a_i2l {X : Cx} {cc : ByteArray} {own : String} {nL d k n pc : Nat} {ls : List (Option Value)} {st : List Value} {w : St} {x : Int32} (hX : Kx X cc own nL d) (hd : decode cc pc = .ok (.i2l, 1)) (kk : A X k n (pc + 1) ls (.long x.toInt64 :: st) w) : A X k n pc ls (.int x :: st) w := fun H locs arr hW hS hL hk => lv_i2l hX.1 hX.2.1 hd rfl (kk H locs arr hW hS hL hk)
theorem a_lcmp {X : Cx} {cc : ByteArray} {own : String} {nL d k n pc : Nat} {ls : List (Option Value)} {st : List Value} {w : St} {x y : Int64} (hX : Kx X cc own nL d) (hd : decode cc pc = .ok (.lcmp, 1)) (kk : A X k n (pc + 1) ls (.int (lg_cmp x y) :: st) w) : A X k n pc ls (.long y :: .long x :: st) w := fun H locs arr hW hS hL hk => W.lcmp hX.1 hX.2.1 hd (kk H locs arr hW hS hL hk)
theorem lg_lt (x y : Int64) : lg_cmp x y < 0 ↔ x.toInt < y.toInt := by
  have h := lg_cmp_ge x y
  rw [Int64.le_iff_toInt_le] at h
  constructor
  · intro z
    exact Int.not_le.mp (fun q => absurd (h.mpr q) (Int32.not_le.mpr z))
  · intro z
    exact Int32.not_le.mp (fun q => absurd (h.mp q) (Int.not_le.mpr z))
theorem back_long {X : Cx} {d0 i t gv tk : Nat} {p d : Int32} {w : St} (hX : Kx X cX8_back RX8 6 d0) (hi : i < 12) (ht : w.1 221 0 = nI t) (ht3 : t < 3600) (hgv : w.1 231 i = nI gv) (hg3 : gv ≤ 3600) (htk : w.1 242 (3600 * i + t) = nI tk) (htk3 : tk ≤ 3600)
    (k3 : ((gv : Int) + d.toInt < 0 ∨ (0 < d.toInt ∧ (tk : Int) < gv + d.toInt)) → A X 0 0 82 [some (.ref (xlay X 221)), some (.int p), some (.int (nI i)), some (.int d), none, none] [] w)
    (k4 : ¬ ((gv : Int) + d.toInt < 0 ∨ (0 < d.toInt ∧ (tk : Int) < gv + d.toInt)) → A X 0 0 84 [some (.ref (xlay X 221)), some (.int p), some (.int (nI i)), some (.int d), none, none] [] w) : A X 0 0 37 [some (.ref (xlay X 221)), some (.int p), some (.int (nI i)), some (.int d), none, none] [] w := by
  have hx : ((nI gv).toInt64 + d.toInt64).toInt = (gv : Int) + d.toInt := by rw [l64, nI_toInt (by omega)]
  have hz0 : (0 : Int64).toInt = 0 := rfl
  have hz32 : (0 : Int32).toInt = 0 := rfl
  refine a_aload_n hX dX8_back_37 rfl ?_
  refine gf_X8_41 rfl hX dX8_back_38 ?_
  refine a_iload_n hX dX8_back_41 rfl ?_
  refine a_iald i hX rfl rfl (show i < 12 from hi) dX8_back_42 ?_
  rw [hgv]
  refine a_i2l hX dX8_back_43 ?_
  refine a_iload_n hX dX8_back_44 rfl ?_
  refine a_i2l hX dX8_back_45 ?_
  intro H locs arr hW hS hL hk
  refine lv_ladd hX.1 hX.2.1 dX8_back_46 ?_
  refine lv_lstore hX.1 hX.2.1 dX8_back_47 hL.has (Nat.le_of_ble_eq_true rfl) rfl (fun arr' hL' => ?_)
  have h4 : arr'[4]? = some (.val (.long ((nI gv).toInt64 + d.toInt64))) := hL'.2.2 _ List.mem_cons_self
  have hL2 : Lv arr' [some (.ref (xlay X 221)), some (.int p), some (.int (nI i)), some (.int d), none, none] := by
    refine ⟨⟨hL'.1, hL'.2.1, fun q hq => by cases hq⟩, fun k v hk => ?_⟩
    match k, hk with
    | 0, hk => cases hk; exact ⟨hL'.2.2 (0, _) (List.mem_cons_of_mem _ List.mem_cons_self), rfl⟩
    | 1, hk => cases hk; exact ⟨hL'.2.2 (1, _) (List.mem_cons_of_mem _ (List.mem_cons_of_mem _ List.mem_cons_self)), rfl⟩
    | 2, hk => cases hk; exact ⟨hL'.2.2 (2, _) (List.mem_cons_of_mem _ (List.mem_cons_of_mem _ (List.mem_cons_of_mem _ List.mem_cons_self))), rfl⟩
    | 3, hk => cases hk; exact ⟨hL'.2.2 (3, _) (List.mem_cons_of_mem _ (List.mem_cons_of_mem _ (List.mem_cons_of_mem _ (List.mem_cons_of_mem _ List.mem_cons_self)))), rfl⟩
    | 4, hk => cases hk
    | 5, hk => cases hk
    | n + 6, hk => simp at hk
  refine lv_lload hX.1 hX.2.1 dX8_back_49 h4 ?_
  refine lv_lconst hX.1 hX.2.1 dX8_back_51 (v := 0) rfl ?_
  refine W.lcmp hX.1 hX.2.1 dX8_back_52 ?_
  refine lv_if_lt (tgt := 82) hX.1 hX.2.1 dX8_back_53 (by decide) (fun q => ?_) (fun q => ?_)
  · rw [lg_lt, hx, hz0] at q
    exact k3 (Or.inl q) H locs arr' hW hS hL2 hk
  · rw [lg_lt, hx, hz0] at q
    refine lv_iload_n hX.1 hX.2.1 dX8_back_56 rfl (hL2.2 3 _ rfl).1 ?_
    refine lv_if_le (tgt := 84) hX.1 hX.2.1 dX8_back_57 (by decide) (fun q2 => ?_) (fun q2 => ?_)
    · rw [Int32.le_iff_toInt_le, hz32] at q2
      exact k4 (by omega) H locs arr' hW hS hL2 hk
    · rw [Int32.le_iff_toInt_le, hz32] at q2
      refine lv_lload hX.1 hX.2.1 dX8_back_60 h4 ?_
      have key : A X 0 0 62 [some (.ref (xlay X 221)), some (.int p), some (.int (nI i)), some (.int d), none, none] [.long ((nI gv).toInt64 + d.toInt64)] w := by
        refine a_aload_n hX dX8_back_62 rfl ?_
        refine gf_X8_76 rfl hX dX8_back_63 ?_
        refine a_sipush (3600) hX dX8_back_66 (by decide) ?_
        refine a_iload_n hX dX8_back_69 rfl ?_
        refine a_imul hX dX8_back_70 ?_
        refine a_aload_n hX dX8_back_71 rfl ?_
        refine gf_X8_97 rfl hX dX8_back_72 ?_
        refine a_iadd hX dX8_back_75 ?_
        rw [ht, n3600]
        refine a_iald (3600 * i + t) hX rfl rfl (show _ < 43200 by omega) dX8_back_76 ?_
        rw [htk]
        refine a_i2l hX dX8_back_77 ?_
        refine a_lcmp hX dX8_back_78 ?_
        have htt : (nI tk).toInt64.toInt = (tk : Int) := by rw [Int32.toInt_toInt64, nI_toInt (by omega)]
        refine a_if_le 84 hX dX8_back_79 (by decide) (fun q3 => ?_) (fun q3 => ?_)
        · rw [lg_cmp_le, Int64.le_iff_toInt_le, hx, htt] at q3
          exact k4 (by omega)
        · rw [lg_cmp_le, Int64.le_iff_toInt_le, hx, htt] at q3
          exact k3 (Or.inr ⟨by omega, by omega⟩)
      exact key H locs arr' hW hS hL2 hk
abbrev T_X8_recall : Tr := fun lay av w Po => ∃ (g : Sg) (p l d t : Int32), av = [.ref (lay 221), .int p, .int l, .int d, .int t] ∧ (MD g w) ∧ (okS g) ∧ ∀ w' : St, MD (recallS g p l d t).2 w' → FrC w w' → Po (some (.int (recallS g p l d t).1)) w'
set_option maxRecDepth 100000 in
set_option maxHeartbeats 4000000 in
theorem c_X8_recall : Ct yX8_recall cX8_recall 8 (some .int) 5 0 0 T_X8_recall := by
  refine Ct.mk (by decide +kernel) ?_
  intro X av w Po hX hR hT
  obtain ⟨g, p, l, d, t, rfl, hD, ho, h⟩ := hT
  refine ⟨rfl, ?_⟩
  show A X 0 0 0 [some (.ref (xlay X 221)), some (.int p), some (.int l), some (.int d), some (.int t), none, none, none] [] w
  refine a_aload_n hX dX8_recall_0 rfl ?_
  refine a_iload_n hX dX8_recall_1 rfl ?_
  refine a_iload_n hX dX8_recall_2 rfl ?_
  refine a_callV [_, _] hX c_X8_room mi_X8_room mv_X8_room se_X8_room (klt rfl (by decide)) (adr_lt (kd_lt rfl (by decide))) (cell_8 rfl) rfl li_X8_156 (by decide) rfl rfl (Nat.le_of_ble_eq_true rfl) (fun q => q) dX8_recall_3 ⟨_, _, _, rfl, hD, ho, ?_⟩
  intro w3 h3 hm3
  have hD3 := hD.s h3
  refine a_istore (ls' := [_, _, _, _, _, _, _, _]) hX dX8_recall_6 (Nat.le_of_ble_eq_true rfl) rfl ?_
  refine a_iload hX dX8_recall_8 rfl ?_
  refine a_if_le 16 hX dX8_recall_10 (by decide) (fun c_10 => ?_) (fun c_10 => ?_)
  · refine a_iload_n hX dX8_recall_16 rfl ?_
    refine a_callS [_] hX c_X8_isDay mi_X8_isDay ms_X8_isDay li_X8_163 (by decide) rfl rfl (Nat.le_of_ble_eq_true rfl) (fun q => q) dX8_recall_17 ⟨_, rfl, ?_⟩
    refine a_if_eq_b 37 hX dX8_recall_20 (by decide) (fun c_20 => ?_) (fun c_20 => ?_)
    · refine a_iconst (3) hX dX8_recall_37 (by decide) ?_
      refine a_iret hX hR dX8_recall_38 ⟨Nat.le_refl _, Nat.le_refl _⟩ rfl ?_
      exact fin_o8 h (by unfold recallS; rw [if_neg (not_not_intro (room_le.mp c_10)), if_pos (by grind)]) hD3 h3.C
    · refine a_iload hX dX8_recall_23 rfl ?_
      refine a_iconst (1) hX dX8_recall_25 (by decide) ?_
      refine a_icmp_lt 37 hX dX8_recall_26 (by decide) (fun c_26 => ?_) (fun c_26 => ?_)
      · refine a_iconst (3) hX dX8_recall_37 (by decide) ?_
        refine a_iret hX hR dX8_recall_38 ⟨Nat.le_refl _, Nat.le_refl _⟩ rfl ?_
        exact fin_o8 h (by unfold recallS; rw [if_neg (not_not_intro (room_le.mp c_10)), if_pos (by grind)]) hD3 h3.C
      · refine a_iload hX dX8_recall_29 rfl ?_
        refine a_sipush (1000) hX dX8_recall_31 (by decide) ?_
        refine a_icmp_le 39 hX dX8_recall_34 (by decide) (fun c_34 => ?_) (fun c_34 => ?_)
        · have hr0 := room_le.mp c_10
          have hdt : isD d ∧ 1 ≤ t ∧ t ≤ 1000 := ⟨c_20, by grind, c_34⟩
          have hn4 := ho.1.1
          have hcc : nI (gn g) = 400 ↔ gn g = 400 := nI_eq (b := 400) (by omega) (by decide)
          refine a_aload_n hX dX8_recall_39 rfl ?_
          refine gf_X8_106 rfl hX dX8_recall_40 ?_
          refine a_sipush (400) hX dX8_recall_43 (by decide) ?_
          rw [hD3.1.2.2.2]
          refine a_icmp_ne 52 hX dX8_recall_46 (by decide) (fun c_46 => ?_) (fun c_46 => ?_)
          · have hg4 : ¬ gn g = 400 := fun z => c_46 (hcc.mpr z)
            obtain ⟨hp0, -, -⟩ := roomS_0 hr0
            obtain ⟨j, hjg, hj6, rfl⟩ := isP_ex ho hp0
            have hjx : ix (nI j) = j := ix_nI (by omega)
            refine a_aload_n hX dX8_recall_52 rfl ?_
            refine a_iload_n hX dX8_recall_53 rfl ?_
            refine a_aload_n hX dX8_recall_54 rfl ?_
            refine gf_X8_97 rfl hX dX8_recall_55 ?_
            refine a_iconst (0) hX dX8_recall_58 (by decide) ?_
            rw [hD3.1.1]
            refine a_callV [_, _, _] hX c_X8_reckon mi_X8_reckon mv_X8_reckon se_X8_reckon (klt rfl (by decide)) (adr_lt (kd_lt rfl (by decide))) (cell_8 rfl) rfl li_X8_192 (by decide) rfl rfl (Nat.le_of_ble_eq_true rfl) (fun q => q) dX8_recall_59 ⟨g, _, _, _, rfl, hD3, ho, hj6, ho.1.2.2, ?_⟩
            intro w59 be en h59 hk59
            rw [kn_all ho] at hk59
            have hk59 : MK w59 (RSn g) j 0 be en := hk59
            have hD59 := hD3.s h59
            have hm59 : FrC w w59 := h3.C.tr h59.C
            refine a_aload_n hX dX8_recall_62 rfl ?_
            refine a_callV [] hX c_X8_fullNow mi_X8_fullNow mv_X8_fullNow se_X8_fullNow (klt rfl (by decide)) (adr_lt (kd_lt rfl (by decide))) (cell_8 rfl) rfl li_X8_198 (by decide) rfl rfl (Nat.le_of_ble_eq_true rfl) (fun q => q) dX8_recall_63 ⟨RSn g, j, 0, _, _, rfl, hk59, ho.n, hj6, ?_⟩
            have hfb := fuD_b (RSn g) j 0
            have hgr : w59.1 221 15 = (RSn g).2.2.2 j := hk59.1.2.2
            have hg9 := (ho.n.1 j hj6).2.2.1
            have hFn : nvI (fuD (RSn g) j 0) = -1 ↔ fuD (RSn g) j 0 = 100000 := by
              unfold nvI
              by_cases hq : fuD (RSn g) j 0 = 100000
              · simp [hq]
              · rw [if_neg hq]
                exact ⟨fun z => absurd z (nI_nm1 (by omega)), fun z => absurd z hq⟩
            refine a_istore (ls' := [_, _, _, _, _, _, _, _]) hX dX8_recall_66 (Nat.le_of_ble_eq_true rfl) rfl ?_
            refine a_aload_n hX dX8_recall_68 rfl ?_
            refine gf_X8_100 rfl hX dX8_recall_69 ?_
            refine a_iconst (-1) hX dX8_recall_72 (by decide) ?_
            refine a_icmp_eq 99 hX dX8_recall_73 (by decide) (fun c_73 => ?_) (fun c_73 => ?_)
            · refine a_bipush (8) hX dX8_recall_99 (by decide) ?_
              refine a_iret hX hR dX8_recall_101 ⟨Nat.le_refl _, Nat.le_refl _⟩ rfl ?_
              have hbad : (RSn g).2.2.2 (ix (nI j)) = -1 ∨ d ≤ (RSn g).2.2.2 (ix (nI j)) ∨ fuD (RSn g) (ix (nI j)) 0 = 100000 ∨ fuD (RSn g) (ix (nI j)) 0 ≤ ix ((RSn g).2.2.2 (ix (nI j))) := by
                rw [hjx]
                first
                | exact Or.inl (hgr.symm.trans c_73)
                | (rw [hgr] at c_81
                   exact Or.inr (Or.inl c_81))
                | exact Or.inr (Or.inr (Or.inl (hFn.mp c_87)))
                | (right; right; right
                   have hF1 : fuD (RSn g) j 0 ≠ 100000 := fun z => c_87 (hFn.mpr z)
                   rcases hg9 with e9 | ⟨gd, hgd, e9⟩
                   · exact absurd (hgr.trans e9) c_73
                   · rw [nvI_lt hF1, hgr, e9] at c_96
                     rw [e9, ix_nI (by omega)]
                     rcases Nat.lt_or_ge gd (fuD (RSn g) j 0) with q | q
                     · exact absurd (nI_lt q (by omega)) c_96
                     · exact q)
              exact fin_o8 h (by unfold recallS; rw [if_neg (not_not_intro hr0), if_neg (not_not_intro hdt), if_neg hg4, if_pos hbad]) hD59 hm59
            · refine a_iload_n hX dX8_recall_76 rfl ?_
              refine a_aload_n hX dX8_recall_77 rfl ?_
              refine gf_X8_100 rfl hX dX8_recall_78 ?_
              refine a_icmp_le 99 hX dX8_recall_81 (by decide) (fun c_81 => ?_) (fun c_81 => ?_)
              · refine a_bipush (8) hX dX8_recall_99 (by decide) ?_
                refine a_iret hX hR dX8_recall_101 ⟨Nat.le_refl _, Nat.le_refl _⟩ rfl ?_
                have hbad : (RSn g).2.2.2 (ix (nI j)) = -1 ∨ d ≤ (RSn g).2.2.2 (ix (nI j)) ∨ fuD (RSn g) (ix (nI j)) 0 = 100000 ∨ fuD (RSn g) (ix (nI j)) 0 ≤ ix ((RSn g).2.2.2 (ix (nI j))) := by
                  rw [hjx]
                  first
                  | exact Or.inl (hgr.symm.trans c_73)
                  | (rw [hgr] at c_81
                     exact Or.inr (Or.inl c_81))
                  | exact Or.inr (Or.inr (Or.inl (hFn.mp c_87)))
                  | (right; right; right
                     have hF1 : fuD (RSn g) j 0 ≠ 100000 := fun z => c_87 (hFn.mpr z)
                     rcases hg9 with e9 | ⟨gd, hgd, e9⟩
                     · exact absurd (hgr.trans e9) c_73
                     · rw [nvI_lt hF1, hgr, e9] at c_96
                       rw [e9, ix_nI (by omega)]
                       rcases Nat.lt_or_ge gd (fuD (RSn g) j 0) with q | q
                       · exact absurd (nI_lt q (by omega)) c_96
                       · exact q)
                exact fin_o8 h (by unfold recallS; rw [if_neg (not_not_intro hr0), if_neg (not_not_intro hdt), if_neg hg4, if_pos hbad]) hD59 hm59
              · refine a_iload hX dX8_recall_84 rfl ?_
                refine a_iconst (-1) hX dX8_recall_86 (by decide) ?_
                refine a_icmp_eq 99 hX dX8_recall_87 (by decide) (fun c_87 => ?_) (fun c_87 => ?_)
                · refine a_bipush (8) hX dX8_recall_99 (by decide) ?_
                  refine a_iret hX hR dX8_recall_101 ⟨Nat.le_refl _, Nat.le_refl _⟩ rfl ?_
                  have hbad : (RSn g).2.2.2 (ix (nI j)) = -1 ∨ d ≤ (RSn g).2.2.2 (ix (nI j)) ∨ fuD (RSn g) (ix (nI j)) 0 = 100000 ∨ fuD (RSn g) (ix (nI j)) 0 ≤ ix ((RSn g).2.2.2 (ix (nI j))) := by
                    rw [hjx]
                    first
                    | exact Or.inl (hgr.symm.trans c_73)
                    | (rw [hgr] at c_81
                       exact Or.inr (Or.inl c_81))
                    | exact Or.inr (Or.inr (Or.inl (hFn.mp c_87)))
                    | (right; right; right
                       have hF1 : fuD (RSn g) j 0 ≠ 100000 := fun z => c_87 (hFn.mpr z)
                       rcases hg9 with e9 | ⟨gd, hgd, e9⟩
                       · exact absurd (hgr.trans e9) c_73
                       · rw [nvI_lt hF1, hgr, e9] at c_96
                         rw [e9, ix_nI (by omega)]
                         rcases Nat.lt_or_ge gd (fuD (RSn g) j 0) with q | q
                         · exact absurd (nI_lt q (by omega)) c_96
                         · exact q)
                  exact fin_o8 h (by unfold recallS; rw [if_neg (not_not_intro hr0), if_neg (not_not_intro hdt), if_neg hg4, if_pos hbad]) hD59 hm59
                · refine a_iload hX dX8_recall_90 rfl ?_
                  refine a_aload_n hX dX8_recall_92 rfl ?_
                  refine gf_X8_100 rfl hX dX8_recall_93 ?_
                  refine a_icmp_gt 102 hX dX8_recall_96 (by decide) (fun c_96 => ?_) (fun c_96 => ?_)
                  · obtain ⟨gd, hgd, e9⟩ : ∃ d, d < 3600 ∧ (RSn g).2.2.2 j = nI d := by
                      rcases hg9 with e9 | e9
                      · exact absurd (hgr.trans e9) c_73
                      · exact e9
                    have hF1 : fuD (RSn g) j 0 ≠ 100000 := fun z => c_87 (hFn.mpr z)
                    have hF2 : gd < fuD (RSn g) j 0 := by
                      rw [nvI_lt hF1, hgr, e9] at c_96
                      exact (nI_ltI (by omega) (by omega)).mp c_96
                    obtain ⟨tt, ht1, ht2⟩ : ∃ tt, tt ≤ 1000 ∧ t = nI tt := le_ex (n := 1000) (by decide) ⟨Int32.le_trans (by decide) hdt.2.1, hdt.2.2⟩
                    have hval := rc_val hF2 (by omega) ht1
                    have hrc : rcNd g (nI j) t = max 1 (((fuD (RSn g) j 0 - gd) * tt + 999) / 1000) := by
                      unfold rcNd
                      rw [hjx, e9, ix_nI (by omega), ht2, ix_nI (by omega)]
                    have hgood : ¬ ((RSn g).2.2.2 (ix (nI j)) = -1 ∨ d ≤ (RSn g).2.2.2 (ix (nI j)) ∨ fuD (RSn g) (ix (nI j)) 0 = 100000 ∨ fuD (RSn g) (ix (nI j)) 0 ≤ ix ((RSn g).2.2.2 (ix (nI j)))) := by
                      rw [hjx]
                      rintro (z | z | z | z)
                      · exact c_73 (hgr.trans z)
                      · exact absurd (by rw [hgr]; exact z) c_81
                      · exact hF1 z
                      · rw [e9, ix_nI (by omega)] at z
                        omega
                    have hZ : ((fuD (RSn g) j 0 - gd) * tt + 999) / 1000 ≤ 3600 := by
                      have hm : (fuD (RSn g) j 0 - gd) * tt ≤ 3600 * 1000 := Nat.mul_le_mul (by omega) ht1
                      omega
                    refine a_iload hX dX8_recall_102 rfl ?_
                    refine a_aload_n hX dX8_recall_104 rfl ?_
                    refine gf_X8_100 rfl hX dX8_recall_105 ?_
                    refine a_isub hX dX8_recall_108 ?_
                    refine a_iload hX dX8_recall_109 rfl ?_
                    refine a_callS [_, _] hX c_X8_thousandths mi_X8_thousandths ms_X8_thousandths li_X8_128 (by decide) rfl rfl (Nat.le_of_ble_eq_true rfl) (fun q => q) dX8_recall_111 ⟨_, _, rfl, ?_⟩
                    rw [hgr, e9, ht2, nvI_lt hF1, hval, ← ht2]
                    refine a_istore (ls' := [_, _, _, _, _, _, _, _]) hX dX8_recall_114 (Nat.le_of_ble_eq_true rfl) rfl ?_
                    refine a_aload_n hX dX8_recall_116 rfl ?_
                    refine gf_X8_17 rfl hX dX8_recall_117 ?_
                    refine a_aload_n hX dX8_recall_120 rfl ?_
                    refine gf_X8_106 rfl hX dX8_recall_121 ?_
                    refine a_iload hX dX8_recall_124 rfl ?_
                    refine a_iconst (1) hX dX8_recall_126 (by decide) ?_
                    refine a_icmp_ge 134 hX dX8_recall_127 (by decide) (fun c_127 => ?_) (fun c_127 => ?_)
                    · refine a_iload hX dX8_recall_134 rfl ?_
                      rw [hD59.1.2.2.2]
                      have hst : nI (((fuD (RSn g) j 0 - gd) * tt + 999) / 1000) = nI (rcNd g (nI j) t) := by
                        have h9 : 1 ≤ (((fuD (RSn g) j 0 - gd) * tt + 999) / 1000) := (nI_leI (a := 1) (by decide) (by omega)).mp c_127
                        rw [hrc, Nat.max_eq_right h9]
                      refine a_iast (gn g) hX rfl rfl (show gn g < 400 by omega) dX8_recall_136 ?_
                      refine a_aload_n hX dX8_recall_137 rfl ?_
                      refine a_bipush (12) hX dX8_recall_138 (by decide) ?_
                      refine a_iload_n hX dX8_recall_140 rfl ?_
                      refine a_iload_n hX dX8_recall_141 rfl ?_
                      refine a_iload_n hX dX8_recall_142 rfl ?_
                      refine a_iload hX dX8_recall_143 rfl ?_
                      refine a_iconst (0) hX dX8_recall_145 (by decide) ?_
                      refine a_iconst (0) hX dX8_recall_146 (by decide) ?_
                      refine a_callV [_, _, _, _, _, _, _] hX c_X8_comes mi_X8_comes mv_X8_comes se_X8_comes (klt rfl (by decide)) (adr_lt (kd_lt rfl (by decide))) (cell_8 rfl) rfl li_X8_159 (by decide) rfl rfl (Nat.le_of_ble_eq_true rfl) (fun q => q) dX8_recall_147 ⟨g, _, _, _, _, _, _, _, (nI (rcNd g (nI j) t)), rfl, (hD59.r223 (Nat.le_refl _)), ho, (fun _ _ => by rw [wset_1, if_pos ⟨rfl, rfl⟩]; exact hst), ?_⟩
                      intro wC hDC hmC
                      refine a_iret hX hR dX8_recall_150 ⟨Nat.le_refl _, Nat.le_refl _⟩ rfl ?_
                      exact fin_g8 h (by unfold recallS; rw [if_neg (not_not_intro hr0), if_neg (not_not_intro hdt), if_neg hg4, if_neg hgood]) hDC ((hm59.set (by decide) (by decide)).tr hmC)
                    · refine a_iconst (1) hX dX8_recall_130 (by decide) ?_
                      refine a_goto 136 hX dX8_recall_131 (by decide) ?_
                      rw [hD59.1.2.2.2]
                      have hst : (1 : Int32) = nI (rcNd g (nI j) t) := by
                        have h9 : ¬ 1 ≤ (((fuD (RSn g) j 0 - gd) * tt + 999) / 1000) := fun z => c_127 (nI_le (a := 1) z (by omega))
                        rw [hrc, Nat.max_eq_left (by omega)]
                        rfl
                      refine a_iast (gn g) hX rfl rfl (show gn g < 400 by omega) dX8_recall_136 ?_
                      refine a_aload_n hX dX8_recall_137 rfl ?_
                      refine a_bipush (12) hX dX8_recall_138 (by decide) ?_
                      refine a_iload_n hX dX8_recall_140 rfl ?_
                      refine a_iload_n hX dX8_recall_141 rfl ?_
                      refine a_iload_n hX dX8_recall_142 rfl ?_
                      refine a_iload hX dX8_recall_143 rfl ?_
                      refine a_iconst (0) hX dX8_recall_145 (by decide) ?_
                      refine a_iconst (0) hX dX8_recall_146 (by decide) ?_
                      refine a_callV [_, _, _, _, _, _, _] hX c_X8_comes mi_X8_comes mv_X8_comes se_X8_comes (klt rfl (by decide)) (adr_lt (kd_lt rfl (by decide))) (cell_8 rfl) rfl li_X8_159 (by decide) rfl rfl (Nat.le_of_ble_eq_true rfl) (fun q => q) dX8_recall_147 ⟨g, _, _, _, _, _, _, _, (nI (rcNd g (nI j) t)), rfl, (hD59.r223 (Nat.le_refl _)), ho, (fun _ _ => by rw [wset_1, if_pos ⟨rfl, rfl⟩]; exact hst), ?_⟩
                      intro wC hDC hmC
                      refine a_iret hX hR dX8_recall_150 ⟨Nat.le_refl _, Nat.le_refl _⟩ rfl ?_
                      exact fin_g8 h (by unfold recallS; rw [if_neg (not_not_intro hr0), if_neg (not_not_intro hdt), if_neg hg4, if_neg hgood]) hDC ((hm59.set (by decide) (by decide)).tr hmC)
                  · refine a_bipush (8) hX dX8_recall_99 (by decide) ?_
                    refine a_iret hX hR dX8_recall_101 ⟨Nat.le_refl _, Nat.le_refl _⟩ rfl ?_
                    have hbad : (RSn g).2.2.2 (ix (nI j)) = -1 ∨ d ≤ (RSn g).2.2.2 (ix (nI j)) ∨ fuD (RSn g) (ix (nI j)) 0 = 100000 ∨ fuD (RSn g) (ix (nI j)) 0 ≤ ix ((RSn g).2.2.2 (ix (nI j))) := by
                      rw [hjx]
                      first
                      | exact Or.inl (hgr.symm.trans c_73)
                      | (rw [hgr] at c_81
                         exact Or.inr (Or.inl c_81))
                      | exact Or.inr (Or.inr (Or.inl (hFn.mp c_87)))
                      | (right; right; right
                         have hF1 : fuD (RSn g) j 0 ≠ 100000 := fun z => c_87 (hFn.mpr z)
                         rcases hg9 with e9 | ⟨gd, hgd, e9⟩
                         · exact absurd (hgr.trans e9) c_73
                         · rw [nvI_lt hF1, hgr, e9] at c_96
                           rw [e9, ix_nI (by omega)]
                           rcases Nat.lt_or_ge gd (fuD (RSn g) j 0) with q | q
                           · exact absurd (nI_lt q (by omega)) c_96
                           · exact q)
                    exact fin_o8 h (by unfold recallS; rw [if_neg (not_not_intro hr0), if_neg (not_not_intro hdt), if_neg hg4, if_pos hbad]) hD59 hm59
          · refine a_bipush (7) hX dX8_recall_49 (by decide) ?_
            refine a_iret hX hR dX8_recall_51 ⟨Nat.le_refl _, Nat.le_refl _⟩ rfl ?_
            exact fin_o8 h (by unfold recallS; rw [if_neg (not_not_intro hr0), if_neg (not_not_intro hdt), if_pos (hcc.mp c_46)]) hD3 h3.C
        · refine a_iconst (3) hX dX8_recall_37 (by decide) ?_
          refine a_iret hX hR dX8_recall_38 ⟨Nat.le_refl _, Nat.le_refl _⟩ rfl ?_
          exact fin_o8 h (by unfold recallS; rw [if_neg (not_not_intro (room_le.mp c_10)), if_pos (by grind)]) hD3 h3.C
  · refine a_iload hX dX8_recall_13 rfl ?_
    refine a_iret hX hR dX8_recall_15 ⟨Nat.le_refl _, Nat.le_refl _⟩ rfl ?_
    exact fin_o8 h (by unfold recallS; rw [if_pos (fun z => c_10 (room_le.mpr z))]) hD3 h3.C
abbrev T_X8_check : Tr := fun lay av w Po => ∃ (g : Sg) (p l d b : Int32), av = [.ref (lay 221), .int p, .int l, .int d, .int b] ∧ (MD g w) ∧ (okS g) ∧ ∀ w' : St, MD g w' → FrC w w' → Po (some (.int (checkS g p l d b))) w'
set_option maxRecDepth 100000 in
set_option maxHeartbeats 4000000 in
theorem c_X8_check : Ct yX8_check cX8_check 7 (some .int) 5 0 0 T_X8_check := by
  refine Ct.mk (by decide +kernel) ?_
  intro X av w Po hX hR hT
  obtain ⟨g, p, l, d, b, rfl, hD, ho, h⟩ := hT
  refine ⟨rfl, ?_⟩
  show A X 0 0 0 [some (.ref (xlay X 221)), some (.int p), some (.int l), some (.int d), some (.int b), none, none] [] w
  refine a_iload_n hX dX8_check_0 rfl ?_
  refine a_callS [_] hX c_X8_isDay mi_X8_isDay ms_X8_isDay li_X8_163 (by decide) rfl rfl (Nat.le_of_ble_eq_true rfl) (fun q => q) dX8_check_1 ⟨_, rfl, ?_⟩
  refine a_if_eq_b 24 hX dX8_check_4 (by decide) (fun c_4 => ?_) (fun c_4 => ?_)
  · refine a_bipush (-2) hX dX8_check_24 (by decide) ?_
    refine a_iret hX hR dX8_check_26 ⟨Nat.le_refl _, Nat.le_refl _⟩ rfl ?_
    first
    | exact po_int (h w hD FrC.rf) (by unfold checkS; rw [if_neg (fun z => c_4 z.1)])
    | exact po_int (h w10 hDX h10.C) (by unfold checkS; rw [if_neg (fun z => c_13 z.2.1)])
    | exact po_int (h w10 hDX h10.C) (show checkS g (nI j) (nI i) d b = _ by unfold checkS; rw [if_neg (fun z => c_21 (hsc.mpr (by have h9 := z.2.2; rwa [hjx, hix] at h9)))])
  · refine a_aload_n hX dX8_check_7 rfl ?_
    refine a_iload_n hX dX8_check_8 rfl ?_
    refine a_iload_n hX dX8_check_9 rfl ?_
    refine a_callV [_, _] hX c_X8_isThere mi_X8_isThere mv_X8_isThere se_X8_isThere (klt rfl (by decide)) (adr_lt (kd_lt rfl (by decide))) (cell_8 rfl) rfl li_X8_205 (by decide) rfl rfl (Nat.le_of_ble_eq_true rfl) (fun q => q) dX8_check_10 ⟨_, _, _, rfl, hD, ho, ?_⟩
    intro w10 h10 hm10
    have hDX := hD.s h10
    refine a_if_eq_b 24 hX dX8_check_13 (by decide) (fun c_13 => ?_) (fun c_13 => ?_)
    · refine a_bipush (-2) hX dX8_check_24 (by decide) ?_
      refine a_iret hX hR dX8_check_26 ⟨Nat.le_refl _, Nat.le_refl _⟩ rfl ?_
      first
      | exact po_int (h w hD FrC.rf) (by unfold checkS; rw [if_neg (fun z => c_4 z.1)])
      | exact po_int (h w10 hDX h10.C) (by unfold checkS; rw [if_neg (fun z => c_13 z.2.1)])
      | exact po_int (h w10 hDX h10.C) (show checkS g (nI j) (nI i) d b = _ by unfold checkS; rw [if_neg (fun z => c_21 (hsc.mpr (by have h9 := z.2.2; rwa [hjx, hix] at h9)))])
    · have hm := hm10 c_13
      have hipl := c_13
      obtain ⟨j, hjg, hj6, rfl⟩ := isP_ex ho c_13.1
      obtain ⟨i, hi, rfl⟩ := isL_ex c_13.2
      have hjx : ix (nI j) = j := ix_nI (by omega)
      have hix : ix (nI i) = i := ix_nI (by omega)
      rw [hjx] at hm
      have hsc := stB_cell hm.1 hi
      have hda := ho.da
      have ht3 := ho.1.2.2
      refine a_aload_n hX dX8_check_16 rfl ?_
      refine a_iload_n hX dX8_check_17 rfl ?_
      refine a_callV [_] hX c_X8_isLive mi_X8_isLive mv_X8_isLive se_X8_isLive (klt rfl (by decide)) (adr_lt (kd_lt rfl (by decide))) (cell_8 rfl) rfl li_X8_121 (by decide) rfl rfl (Nat.le_of_ble_eq_true rfl) (fun q => q) dX8_check_18 ⟨_, rfl, hi, ?_⟩
      refine a_if_ne_b 27 hX dX8_check_21 (by decide) (fun c_21 => ?_) (fun c_21 => ?_)
      · have hid := c_4
        obtain ⟨x, hx, rfl⟩ := isD_ex c_4
        have hsB := hsc.mp c_21
        have hS : checkS g (nI j) (nI i) (nI x) b = ckN (RSk g) j i x b 32 := by
          unfold checkS
          rw [if_pos ⟨hid, hipl, by rw [hjx, hix]; exact hsB⟩, hjx, hix, ix_nI (by omega)]
        refine a_aload_n hX dX8_check_27 rfl ?_
        refine a_iload_n hX dX8_check_28 rfl ?_
        refine a_aload_n hX dX8_check_29 rfl ?_
        refine a_callV [] hX c_X8_known mi_X8_known mv_X8_known se_X8_known (klt rfl (by decide)) (adr_lt (kd_lt rfl (by decide))) (cell_8 rfl) rfl li_X8_202 (by decide) rfl rfl (Nat.le_of_ble_eq_true rfl) (fun q => q) dX8_check_30 ⟨_, rfl, hDX, ho, ?_⟩
        refine a_iconst (0) hX dX8_check_33 (by decide) ?_
        refine a_callV [_, _, _] hX c_X8_reckon mi_X8_reckon mv_X8_reckon se_X8_reckon (klt rfl (by decide)) (adr_lt (kd_lt rfl (by decide))) (cell_8 rfl) rfl li_X8_192 (by decide) rfl rfl (Nat.le_of_ble_eq_true rfl) (fun q => q) dX8_check_34 ⟨g, _, _, _, rfl, hDX, ho, hj6, (by omega), ?_⟩
        intro w34 be en h34 hk34
        have hk34 : MK w34 (RSk g) j 0 be en := hk34
        obtain ⟨-, -, k3⟩ := hk34.get ho.k hj6 hi hsB
        have hm1034 := h10.tr h34
        refine a_iconst (0) hX dX8_check_37 (by decide) ?_
        refine a_istore (ls' := [_, _, _, _, _, _, _]) hX dX8_check_38 (Nat.le_of_ble_eq_true rfl) rfl ?_
        have L40 : ∀ (fu : Nat) (s : Nat) (y6 : Option Value), 32 - s < fu → (s ≤ 32) → (ckN (RSk g) j i x b 32 = ckN (RSk g) j i x b (32 - s)) → A X 0 0 40 [some (.ref (xlay X 221)), some (.int (nI j)), some (.int (nI i)), some (.int (nI x)), some (.int b), some (.int (nI s)), y6] [] w34 := by
          intro fu
          induction fu with
          | zero => intro s y6 hmu; exact absurd hmu (Nat.not_lt_zero _)
          | succ fu ih =>
            intro s y6 hmu hs hck
            refine a_iload hX dX8_check_40 rfl ?_
            refine a_bipush (32) hX dX8_check_42 (by decide) ?_
            refine a_icmp_ge 114 hX dX8_check_44 (by decide) (fun c_44 => ?_) (fun c_44 => ?_)
            · refine a_iconst (-1) hX dX8_check_114 (by decide) ?_
              refine a_iret hX hR dX8_check_115 ⟨Nat.le_refl _, Nat.le_refl _⟩ rfl ?_
              have hs32 : s = 32 := by
                have := le_of_c (b := 32) c_44 (by omega) (by omega)
                omega
              subst hs32
              exact po_int (h w34 (hDX.s h34) hm1034.C) (by rw [hS, hck]; rfl)
            · have hs32 : s < 32 := lt_of_c (b := 32) c_44 (by omega) (by omega)
              have hbs := bt_1c (s := b) hs32
              have hstep := ckB (S := RSk g) (P := j) (k := i) (d := x) (b := b) hs32
              have f1 : 3600 ≤ nI (x + s) ↔ ¬ x + s < 3600 := by
                have h9 : nI 3600 ≤ nI (x + s) ↔ 3600 ≤ x + s := nI_leI (by decide) (by omega)
                exact h9.trans (by omega)
              have f2 : x + s < 3600 → (w34.1 240 (3600 * i + (x + s)) = 0 ↔ ctN (RSk g) j 0 i (x + s) = false) := fun z => by
                rw [(k3 (x + s) z).1]
                cases ctN (RSk g) j 0 i (x + s) <;> simp
              obtain ⟨B, hB⟩ : ∃ B, B = (decide (x + s < 3600) && ctN (RSk g) j 0 i (x + s)) := ⟨_, rfl⟩
              rw [← hB] at hstep
              refine a_iload_n hX dX8_check_47 rfl ?_
              refine a_iload hX dX8_check_48 rfl ?_
              refine a_iadd hX dX8_check_50 ?_
              rw [nI_add]
              refine a_sipush (3600) hX dX8_check_51 (by decide) ?_
              refine a_icmp_ge 79 hX dX8_check_54 (by decide) (fun c_54 => ?_) (fun c_54 => ?_)
              · refine a_iconst (0) hX dX8_check_79 (by decide) ?_
                refine a_istore (ls' := [_, _, _, _, _, _, _]) hX dX8_check_80 (Nat.le_of_ble_eq_true rfl) rfl ?_
                refine a_iload hX dX8_check_82 rfl ?_
                refine a_iload hX dX8_check_84 rfl ?_
                refine a_iload hX dX8_check_86 rfl ?_
                refine a_ishr hX dX8_check_88 ?_
                refine a_iconst (1) hX dX8_check_89 (by decide) ?_
                refine a_iand hX dX8_check_90 ?_
                refine a_iconst (1) hX dX8_check_91 (by decide) ?_
                refine a_icmp_ne 99 hX dX8_check_92 (by decide) (fun c_92 => ?_) (fun c_92 => ?_)
                · refine a_iconst (0) hX dX8_check_99 (by decide) ?_
                  refine a_icmp_eq 108 hX dX8_check_100 (by decide) (fun c_100 => ?_) (fun c_100 => ?_)
                  · have hne : ¬ (B ≠ bt b s) := by
                      first | exact absurd c_100 (by decide) | grind
                    refine a_iinc (ls' := [_, _, _, _, _, _, _]) (nI (s + 1)) hX dX8_check_108 rfl (nI_i1 s) rfl ?_
                    refine a_goto 40 hX dX8_check_111 (by decide) ?_
                    exact ih (s + 1) _ (by omega) (by omega) (by rw [hck, hstep, if_neg hne])
                  · refine a_iload_n hX dX8_check_103 rfl ?_
                    refine a_iload hX dX8_check_104 rfl ?_
                    refine a_iadd hX dX8_check_106 ?_
                    rw [nI_add]
                    refine a_iret hX hR dX8_check_107 ⟨Nat.le_refl _, Nat.le_refl _⟩ rfl ?_
                    have hne : B ≠ bt b s := by
                      first | exact absurd rfl c_100 | grind
                    exact po_int (h w34 (hDX.s h34) hm1034.C) (by rw [hS, hck, hstep, if_pos hne])
                · refine a_iconst (1) hX dX8_check_95 (by decide) ?_
                  refine a_goto 100 hX dX8_check_96 (by decide) ?_
                  refine a_icmp_eq 108 hX dX8_check_100 (by decide) (fun c_100 => ?_) (fun c_100 => ?_)
                  · have hne : ¬ (B ≠ bt b s) := by
                      first | exact absurd c_100 (by decide) | grind
                    refine a_iinc (ls' := [_, _, _, _, _, _, _]) (nI (s + 1)) hX dX8_check_108 rfl (nI_i1 s) rfl ?_
                    refine a_goto 40 hX dX8_check_111 (by decide) ?_
                    exact ih (s + 1) _ (by omega) (by omega) (by rw [hck, hstep, if_neg hne])
                  · refine a_iload_n hX dX8_check_103 rfl ?_
                    refine a_iload hX dX8_check_104 rfl ?_
                    refine a_iadd hX dX8_check_106 ?_
                    rw [nI_add]
                    refine a_iret hX hR dX8_check_107 ⟨Nat.le_refl _, Nat.le_refl _⟩ rfl ?_
                    have hne : B ≠ bt b s := by
                      first | exact absurd rfl c_100 | grind
                    exact po_int (h w34 (hDX.s h34) hm1034.C) (by rw [hS, hck, hstep, if_pos hne])
              · refine a_aload_n hX dX8_check_57 rfl ?_
                refine gf_X8_70 rfl hX dX8_check_58 ?_
                refine a_sipush (3600) hX dX8_check_61 (by decide) ?_
                refine a_iload_n hX dX8_check_64 rfl ?_
                refine a_imul hX dX8_check_65 ?_
                refine a_iload_n hX dX8_check_66 rfl ?_
                refine a_iadd hX dX8_check_67 ?_
                refine a_iload hX dX8_check_68 rfl ?_
                refine a_iadd hX dX8_check_70 ?_
                have hxs : x + s < 3600 := Decidable.not_not.mp (fun z => c_54 (f1.mpr z))
                rw [n3600, nI_add, show 3600 * i + x + s = 3600 * i + (x + s) by omega]
                refine a_zald (3600 * i + (x + s)) hX rfl rfl (show _ < 43200 by omega) dX8_check_71 ?_
                refine a_if_eq 79 hX dX8_check_72 (by decide) (fun c_72 => ?_) (fun c_72 => ?_)
                · refine a_iconst (0) hX dX8_check_79 (by decide) ?_
                  refine a_istore (ls' := [_, _, _, _, _, _, _]) hX dX8_check_80 (Nat.le_of_ble_eq_true rfl) rfl ?_
                  refine a_iload hX dX8_check_82 rfl ?_
                  refine a_iload hX dX8_check_84 rfl ?_
                  refine a_iload hX dX8_check_86 rfl ?_
                  refine a_ishr hX dX8_check_88 ?_
                  refine a_iconst (1) hX dX8_check_89 (by decide) ?_
                  refine a_iand hX dX8_check_90 ?_
                  refine a_iconst (1) hX dX8_check_91 (by decide) ?_
                  refine a_icmp_ne 99 hX dX8_check_92 (by decide) (fun c_92 => ?_) (fun c_92 => ?_)
                  · refine a_iconst (0) hX dX8_check_99 (by decide) ?_
                    refine a_icmp_eq 108 hX dX8_check_100 (by decide) (fun c_100 => ?_) (fun c_100 => ?_)
                    · have hne : ¬ (B ≠ bt b s) := by
                        first | exact absurd c_100 (by decide) | grind
                      refine a_iinc (ls' := [_, _, _, _, _, _, _]) (nI (s + 1)) hX dX8_check_108 rfl (nI_i1 s) rfl ?_
                      refine a_goto 40 hX dX8_check_111 (by decide) ?_
                      exact ih (s + 1) _ (by omega) (by omega) (by rw [hck, hstep, if_neg hne])
                    · refine a_iload_n hX dX8_check_103 rfl ?_
                      refine a_iload hX dX8_check_104 rfl ?_
                      refine a_iadd hX dX8_check_106 ?_
                      rw [nI_add]
                      refine a_iret hX hR dX8_check_107 ⟨Nat.le_refl _, Nat.le_refl _⟩ rfl ?_
                      have hne : B ≠ bt b s := by
                        first | exact absurd rfl c_100 | grind
                      exact po_int (h w34 (hDX.s h34) hm1034.C) (by rw [hS, hck, hstep, if_pos hne])
                  · refine a_iconst (1) hX dX8_check_95 (by decide) ?_
                    refine a_goto 100 hX dX8_check_96 (by decide) ?_
                    refine a_icmp_eq 108 hX dX8_check_100 (by decide) (fun c_100 => ?_) (fun c_100 => ?_)
                    · have hne : ¬ (B ≠ bt b s) := by
                        first | exact absurd c_100 (by decide) | grind
                      refine a_iinc (ls' := [_, _, _, _, _, _, _]) (nI (s + 1)) hX dX8_check_108 rfl (nI_i1 s) rfl ?_
                      refine a_goto 40 hX dX8_check_111 (by decide) ?_
                      exact ih (s + 1) _ (by omega) (by omega) (by rw [hck, hstep, if_neg hne])
                    · refine a_iload_n hX dX8_check_103 rfl ?_
                      refine a_iload hX dX8_check_104 rfl ?_
                      refine a_iadd hX dX8_check_106 ?_
                      rw [nI_add]
                      refine a_iret hX hR dX8_check_107 ⟨Nat.le_refl _, Nat.le_refl _⟩ rfl ?_
                      have hne : B ≠ bt b s := by
                        first | exact absurd rfl c_100 | grind
                      exact po_int (h w34 (hDX.s h34) hm1034.C) (by rw [hS, hck, hstep, if_pos hne])
                · refine a_iconst (1) hX dX8_check_75 (by decide) ?_
                  refine a_goto 80 hX dX8_check_76 (by decide) ?_
                  refine a_istore (ls' := [_, _, _, _, _, _, _]) hX dX8_check_80 (Nat.le_of_ble_eq_true rfl) rfl ?_
                  refine a_iload hX dX8_check_82 rfl ?_
                  refine a_iload hX dX8_check_84 rfl ?_
                  refine a_iload hX dX8_check_86 rfl ?_
                  refine a_ishr hX dX8_check_88 ?_
                  refine a_iconst (1) hX dX8_check_89 (by decide) ?_
                  refine a_iand hX dX8_check_90 ?_
                  refine a_iconst (1) hX dX8_check_91 (by decide) ?_
                  refine a_icmp_ne 99 hX dX8_check_92 (by decide) (fun c_92 => ?_) (fun c_92 => ?_)
                  · refine a_iconst (0) hX dX8_check_99 (by decide) ?_
                    refine a_icmp_eq 108 hX dX8_check_100 (by decide) (fun c_100 => ?_) (fun c_100 => ?_)
                    · have hne : ¬ (B ≠ bt b s) := by
                        first | exact absurd c_100 (by decide) | grind
                      refine a_iinc (ls' := [_, _, _, _, _, _, _]) (nI (s + 1)) hX dX8_check_108 rfl (nI_i1 s) rfl ?_
                      refine a_goto 40 hX dX8_check_111 (by decide) ?_
                      exact ih (s + 1) _ (by omega) (by omega) (by rw [hck, hstep, if_neg hne])
                    · refine a_iload_n hX dX8_check_103 rfl ?_
                      refine a_iload hX dX8_check_104 rfl ?_
                      refine a_iadd hX dX8_check_106 ?_
                      rw [nI_add]
                      refine a_iret hX hR dX8_check_107 ⟨Nat.le_refl _, Nat.le_refl _⟩ rfl ?_
                      have hne : B ≠ bt b s := by
                        first | exact absurd rfl c_100 | grind
                      exact po_int (h w34 (hDX.s h34) hm1034.C) (by rw [hS, hck, hstep, if_pos hne])
                  · refine a_iconst (1) hX dX8_check_95 (by decide) ?_
                    refine a_goto 100 hX dX8_check_96 (by decide) ?_
                    refine a_icmp_eq 108 hX dX8_check_100 (by decide) (fun c_100 => ?_) (fun c_100 => ?_)
                    · have hne : ¬ (B ≠ bt b s) := by
                        first | exact absurd c_100 (by decide) | grind
                      refine a_iinc (ls' := [_, _, _, _, _, _, _]) (nI (s + 1)) hX dX8_check_108 rfl (nI_i1 s) rfl ?_
                      refine a_goto 40 hX dX8_check_111 (by decide) ?_
                      exact ih (s + 1) _ (by omega) (by omega) (by rw [hck, hstep, if_neg hne])
                    · refine a_iload_n hX dX8_check_103 rfl ?_
                      refine a_iload hX dX8_check_104 rfl ?_
                      refine a_iadd hX dX8_check_106 ?_
                      rw [nI_add]
                      refine a_iret hX hR dX8_check_107 ⟨Nat.le_refl _, Nat.le_refl _⟩ rfl ?_
                      have hne : B ≠ bt b s := by
                        first | exact absurd rfl c_100 | grind
                      exact po_int (h w34 (hDX.s h34) hm1034.C) (by rw [hS, hck, hstep, if_pos hne])
        exact L40 33 0 none (by omega) (by omega) rfl
      · refine a_bipush (-2) hX dX8_check_24 (by decide) ?_
        refine a_iret hX hR dX8_check_26 ⟨Nat.le_refl _, Nat.le_refl _⟩ rfl ?_
        first
        | exact po_int (h w hD FrC.rf) (by unfold checkS; rw [if_neg (fun z => c_4 z.1)])
        | exact po_int (h w10 hDX h10.C) (by unfold checkS; rw [if_neg (fun z => c_13 z.2.1)])
        | exact po_int (h w10 hDX h10.C) (show checkS g (nI j) (nI i) d b = _ by unfold checkS; rw [if_neg (fun z => c_21 (hsc.mpr (by have h9 := z.2.2; rwa [hjx, hix] at h9)))])
abbrev T_X8_back : Tr := fun lay av w Po => ∃ (g : Sg) (p l d : Int32), av = [.ref (lay 221), .int p, .int l, .int d] ∧ (MD g w) ∧ (okS g) ∧ ∀ w' : St, MD (backS g p l d).2 w' → FrC w w' → Po (some (.int (backS g p l d).1)) w'
set_option maxRecDepth 100000 in
set_option maxHeartbeats 4000000 in
theorem c_X8_back : Ct yX8_back cX8_back 6 (some .int) 5 0 0 T_X8_back := by
  refine Ct.mk (by decide +kernel) ?_
  intro X av w Po hX hR hT
  obtain ⟨g, p, l, d, rfl, hD, ho, h⟩ := hT
  refine ⟨rfl, ?_⟩
  show A X 0 0 0 [some (.ref (xlay X 221)), some (.int p), some (.int l), some (.int d), none, none] [] w
  refine a_aload_n hX dX8_back_0 rfl ?_
  refine a_iload_n hX dX8_back_1 rfl ?_
  refine a_callV [_] hX c_X8_isPerson mi_X8_isPerson mv_X8_isPerson se_X8_isPerson (klt rfl (by decide)) (adr_lt (kd_lt rfl (by decide))) (cell_8 rfl) rfl li_X8_150 (by decide) rfl rfl (Nat.le_of_ble_eq_true rfl) (fun q => q) dX8_back_2 ⟨_, rfl, ?_⟩
  rw [hD.1.2.2.1]
  refine a_if_eq_b 15 hX dX8_back_5 (by decide) (fun c_5 => ?_) (fun c_5 => ?_)
  · refine a_iconst (1) hX dX8_back_15 (by decide) ?_
    refine a_iret hX hR dX8_back_16 ⟨Nat.le_refl _, Nat.le_refl _⟩ rfl ?_
    exact fin_o8 h (by unfold backS; rw [if_pos (by grind)]) hD FrC.rf
  · refine a_iload_n hX dX8_back_8 rfl ?_
    refine a_callS [_] hX c_X8_isPlace mi_X8_isPlace ms_X8_isPlace li_X8_153 (by decide) rfl rfl (Nat.le_of_ble_eq_true rfl) (fun q => q) dX8_back_9 ⟨_, rfl, ?_⟩
    refine a_if_ne_b 17 hX dX8_back_12 (by decide) (fun c_12 => ?_) (fun c_12 => ?_)
    · have hip := c_5
      have hil := c_12
      obtain ⟨j, hjg, hj6, rfl⟩ := isP_ex ho c_5
      obtain ⟨i, hi, rfl⟩ := isL_ex c_12
      have hix : ix (nI i) = i := ix_nI (by omega)
      have hjx : ix (nI j) = j := ix_nI (by omega)
      refine a_aload_n hX dX8_back_17 rfl ?_
      refine a_iload_n hX dX8_back_18 rfl ?_
      refine a_aload_n hX dX8_back_19 rfl ?_
      refine gf_X8_97 rfl hX dX8_back_20 ?_
      refine a_iconst (0) hX dX8_back_23 (by decide) ?_
      rw [hD.1.1]
      refine a_callV [_, _, _] hX c_X8_reckon mi_X8_reckon mv_X8_reckon se_X8_reckon (klt rfl (by decide)) (adr_lt (kd_lt rfl (by decide))) (cell_8 rfl) rfl li_X8_192 (by decide) rfl rfl (Nat.le_of_ble_eq_true rfl) (fun q => q) dX8_back_24 ⟨g, _, _, _, rfl, hD, ho, hj6, ho.1.2.2, ?_⟩
      intro w24 be en h24 hk24
      rw [kn_all ho] at hk24
      have hk24 : MK w24 (RSn g) j 0 be en := hk24
      have hD24 := hD.s h24
      obtain ⟨m0, m5, m8⟩ := (hk24.1.1.pl hi)
      have hru : (((2 ≤ w24.1 224 i ∧ w24.1 224 i ≤ 5) ∧ w24.1 232 i = -1) ∧ w24.1 224 i ≠ 5) ↔ ruld (RSn g) (nI j) (nI i) := by
        unfold ruld pl
        rw [m0, m5, ix_nI (by omega), ix_nI (by omega)]
      refine a_aload_n hX dX8_back_27 rfl ?_
      refine a_iload_n hX dX8_back_28 rfl ?_
      refine a_callV [_] hX c_X8_isRuled mi_X8_isRuled mv_X8_isRuled se_X8_isRuled (klt rfl (by decide)) (adr_lt (kd_lt rfl (by decide))) (cell_8 rfl) rfl li_X8_189 (by decide) rfl rfl (Nat.le_of_ble_eq_true rfl) (fun q => q) dX8_back_29 ⟨_, rfl, hi, ?_⟩
      refine a_if_ne_b 37 hX dX8_back_32 (by decide) (fun c_32 => ?_) (fun c_32 => ?_)
      · have hsB : stB ((RSn g).1 j) i = true := (stB_cell hk24.1.1 hi).mp c_32.1
        obtain ⟨-, -, k3⟩ := hk24.get ho.n hj6 hi hsB
        obtain ⟨-, -, -, -, -, -, -, -, ⟨gv, hgv, egv⟩, -⟩ := (ho.n.1 j hj6).1 i hi
        have htk := tkS_le (mst := 0) (d := gt g) ho.n hj6 hi
        have hcond : ((pl (RSn g) (nI j) (nI i) 8).toInt + d.toInt < 0 ∨ (0 < d.toInt ∧ (tkS (RSn g) (ix (nI j)) 0 (ix (nI i)) (gt g) : Int) < (pl (RSn g) (nI j) (nI i) 8).toInt + d.toInt)) ↔ ((gv : Int) + d.toInt < 0 ∨ (0 < d.toInt ∧ (tkS (RSn g) j 0 i (gt g) : Int) < gv + d.toInt)) := by
          unfold pl
          rw [hix, hjx, egv, nI_toInt (by omega)]
        refine back_long hX hi hD24.1.1 ho.1.2.2 (by rw [m8]; exact egv) hgv (k3 (gt g) ho.1.2.2).2.2 htk (fun hq => ?_) (fun hq => ?_)
        · refine a_iconst (3) hX dX8_back_82 (by decide) ?_
          refine a_iret hX hR dX8_back_83 ⟨Nat.le_refl _, Nat.le_refl _⟩ rfl ?_
          exact fin_o8 h (by unfold backS; rw [if_neg (not_not_intro ⟨hip, hil⟩), if_neg (not_not_intro (hru.mp c_32)), if_pos (hcond.mpr hq)]) hD24 h24.C
        · refine a_aload_n hX dX8_back_84 rfl ?_
          refine a_bipush (10) hX dX8_back_85 (by decide) ?_
          refine a_iload_n hX dX8_back_87 rfl ?_
          refine a_iload_n hX dX8_back_88 rfl ?_
          refine a_iload_n hX dX8_back_89 rfl ?_
          refine a_iconst (0) hX dX8_back_90 (by decide) ?_
          refine a_iconst (0) hX dX8_back_91 (by decide) ?_
          refine a_iconst (0) hX dX8_back_92 (by decide) ?_
          refine a_callV [_, _, _, _, _, _, _] hX c_X8_comes mi_X8_comes mv_X8_comes se_X8_comes (klt rfl (by decide)) (adr_lt (kd_lt rfl (by decide))) (cell_8 rfl) rfl li_X8_159 (by decide) rfl rfl (Nat.le_of_ble_eq_true rfl) (fun q => q) dX8_back_93 ⟨g, _, _, _, _, _, _, _, 0, rfl, hD24, ho, (fun z => absurd z (by decide)), ?_⟩
          intro wC hDC hmC
          refine a_iret hX hR dX8_back_96 ⟨Nat.le_refl _, Nat.le_refl _⟩ rfl ?_
          exact fin_g8 h (by unfold backS; rw [if_neg (not_not_intro ⟨hip, hil⟩), if_neg (not_not_intro (hru.mp c_32)), if_neg (fun z => hq (hcond.mp z))]) hDC (h24.C.tr hmC)
      · refine a_iconst (5) hX dX8_back_35 (by decide) ?_
        refine a_iret hX hR dX8_back_36 ⟨Nat.le_refl _, Nat.le_refl _⟩ rfl ?_
        exact fin_o8 h (by unfold backS; rw [if_neg (not_not_intro ⟨hip, hil⟩), if_pos (fun z => c_32 (hru.mpr z))]) hD24 h24.C
    · refine a_iconst (1) hX dX8_back_15 (by decide) ?_
      refine a_iret hX hR dX8_back_16 ⟨Nat.le_refl _, Nat.le_refl _⟩ rfl ?_
      exact fin_o8 h (by unfold backS; rw [if_pos (by grind)]) hD FrC.rf
