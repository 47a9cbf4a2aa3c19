/-! the class: orders that wait, days given back, grants, recalls; persons and days -/
theorem newE_ag {PP QQ : Nat → Nat → Int32} (h : agP PP QQ) {p : Nat} {s : Int32} : ∀ k, k < 12 → ∀ i, i < 12 → newE PP p s k i = newE QQ p s k i := by
  intro k hk i hi
  unfold newE
  rw [runsB_ag h hk, h k hk 4 (by omega)]
theorem CIg.ring {g : Sg} {w w' : St} {L L' : Nat} {rg rg' : Nat → Nat} (h : CIg g w) (hf : Fr w w' (fun z => 217 ≤ z ∧ z ≤ 220)) (h1 : w'.1 217 1 = nI L) (h2 : ∀ j, j < L → w'.1 218 j = nI (rg j)) (he : L' = L) (hr : ∀ j, j < L → rg' j = rg j) : CIg (gL g, gn g, gp g, gt g, ga g, L', rg') w' := by
  obtain ⟨a, b, c, d, e, ⟨m, f1, f2, f3⟩, i, j⟩ := h
  subst he
  have h0 := hf.2 0 (fun z => by omega)
  have h2' := hf.2 2 (fun z => by omega)
  have h106 := hf.2 106 (fun z => by omega)
  refine ⟨by rw [h0]; exact a, by rw [hf.1]; exact b, by rw [hf.1]; exact c, fun i hi j hj => ?_, ⟨e.1.fr hf (fun z h1 h2 h3 => by omega), by rw [h2']; exact e.2⟩, ⟨m, f1, by rw [h106]; exact f2, f3.fr hf (fun z h1 h2 h3 => by omega)⟩, h1, fun x hx => by rw [h2 x hx]; show _ = nI (rg' x); rw [hr x hx]⟩
  rw [hf.2 _ (fun z => by omega)]
  exact d i hi j hj
theorem CI.ring {g : Sg} {w w' : St} {L L' : Nat} {rg rg' : Nat → Nat} (h : CI g w) (hf : Fr w w' (fun z => 217 ≤ z ∧ z ≤ 220)) (h1 : w'.1 217 1 = nI L) (h2 : ∀ j, j < L → w'.1 218 j = nI (rg j)) (he : L' = L) (hr : ∀ j, j < L → rg' j = rg j) : CI (gL g, gn g, gp g, gt g, ga g, L', rg') w' := ⟨h.1.ring hf h1 h2 he hr, by rw [hf.1]; exact h.2⟩
theorem mtN_le {PP : Nat → Nat → Int32} {k : Nat} (hv : vP PP) (hk : k < 12) : mtN PP k ≤ 3600 := by
  obtain ⟨-, -, -, ⟨n, hn, en, -⟩, -⟩ := hv k hk
  unfold mtN
  rw [en, ix_nI (by omega)]
  omega
theorem tkS_le {S : RS} {P k d : Nat} {mst : Int32} (hg : gdS S) (hP : P < 6) (hk : k < 12) : tkS S P mst k d ≤ 3600 := Nat.le_trans (tkN_le _ _ _ _) (mtN_le (hg.1 P hP).1 hk)
theorem RkT.wle {w : St} {q P t : Nat} {S : RS} {mst : Int32} {be en : Nat → Nat} (h : RkT w q S P mst be en) (hg : gdS S) (hP : P < 6) : waD S P mst t ≤ 100000 := by
  unfold waD
  refine maxF_le (by omega) (fun j hj hp => ?_)
  have h1 := (sol_tie hg hP h.2.2.2.2 hj hp).2.1
  have h2 := (h.2.2.2.1 j hj).2
  unfold bdN at h2
  rw [← h1]
  omega
theorem fuD_b (S : RS) (P : Nat) (mst : Int32) : fuD S P mst ≤ 3600 ∨ fuD S P mst = 100000 := by
  unfold fuD
  split
  · next h => exact Or.inl h
  · exact Or.inr rfl
theorem rc_need {F gd tt : Nat} (h : gd < F) (hF : F ≤ 3600) (ht : tt ≤ 1000) : (if (1 : Int32) < ((nI F - nI gd) * nI tt + 999) / 1000 then ((nI F - nI gd) * nI tt + 999) / 1000 else 1) = nI (max 1 (((F - gd) * tt + 999) / 1000)) := by
  have hm : (F - gd) * tt ≤ 3600 * 1000 := Nat.mul_le_mul (by omega) ht
  have e : ((nI F - nI gd) * nI tt + 999) / 1000 = nI (((F - gd) * tt + 999) / 1000) := by
    rw [pk_sub (by omega), pk_mul, show nI ((F - gd) * tt) + 999 = nI ((F - gd) * tt + 999) from nI_add _ 999]
    exact pk_div (d := 1000) (by omega) (by decide) (by decide)
  rw [e]
  have hc : (1 : Int32) < nI (((F - gd) * tt + 999) / 1000) ↔ 1 < ((F - gd) * tt + 999) / 1000 := nI_ltI (a := 1) (by decide) (by omega)
  by_cases h1 : 1 < ((F - gd) * tt + 999) / 1000
  · rw [if_pos (hc.mpr h1), Nat.max_eq_right (by omega)]
  · rw [if_neg (fun z => h1 (hc.mp z)), Nat.max_eq_left (by omega)]
    rfl
abbrev T_X7_waits : Tr := fun lay av w Po => ∃ (g : Sg) (p l k f n s : Int32), av = [.ref (lay 0), .int p, .int l, .int k, .int f, .int n, .int s] ∧ (CI g w) ∧ (okS g) ∧ ∀ w' : St, CI (waitsS g p l k f n s).2 w' → FrM w w' → Po (some (.int (waitsS g p l k f n s).1)) w'
set_option maxRecDepth 100000 in
set_option maxHeartbeats 4000000 in
theorem c_X7_waits : Ct yX7_waits cX7_waits 10 (some .int) 6 1 9 T_X7_waits := by
  refine Ct.mk2 (by decide +kernel) ?_
  intro X av w Po hX hR hZ hT
  obtain ⟨g, p, l, k, f, n, s, rfl, hC, ho, h⟩ := hT
  refine ⟨rfl, ?_⟩
  show A X 0 0 0 [some (.ref (xlay X 0)), some (.int p), some (.int l), some (.int k), some (.int f), some (.int n), some (.int s), none, none, none] [] w
  refine a_aload_n hX dX7_waits_0 rfl ?_
  refine a_iload_n hX dX7_waits_1 rfl ?_
  refine a_iload_n hX dX7_waits_2 rfl ?_
  refine a_callV [_, _] hX c_X7_putStatus mi_X7_putStatus mv_X7_putStatus se_X7_putStatus (klt rfl (by decide)) (adr_lt (kd_lt rfl (by decide))) (cell_7 rfl) rfl li_X7_56 (by decide) rfl rfl (Nat.le_of_ble_eq_true rfl) (fun q => q) dX7_waits_3 ⟨_, _, _, rfl, hC.1, ho, ?_⟩
  refine a_istore (ls' := [_, _, _, _, _, _, _, _, _, _]) hX dX7_waits_6 (Nat.le_of_ble_eq_true rfl) rfl ?_
  refine a_iload hX dX7_waits_8 rfl ?_
  refine a_if_eq 16 hX dX7_waits_10 (by decide) (fun c_10 => ?_) (fun c_10 => ?_)
  · refine a_iload_n hX dX7_waits_16 rfl ?_
    refine a_iconst (3) hX dX7_waits_17 (by decide) ?_
    refine a_icmp_eq 31 hX dX7_waits_18 (by decide) (fun c_18 => ?_) (fun c_18 => ?_)
    · refine a_iconst (1) hX dX7_waits_31 (by decide) ?_
      refine a_goto 36 hX dX7_waits_32 (by decide) ?_
      refine a_istore (ls' := [_, _, _, _, _, _, _, _, _, _]) hX dX7_waits_36 (Nat.le_of_ble_eq_true rfl) rfl ?_
      refine a_iload hX dX7_waits_38 rfl ?_
      refine a_if_eq 67 hX dX7_waits_40 (by decide) (fun c_40 => ?_) (fun c_40 => ?_)
      · refine a_iconst (3) hX dX7_waits_67 (by decide) ?_
        refine a_iret hX hR dX7_waits_68 ⟨Nat.le_of_ble_eq_true rfl, Nat.le_of_ble_eq_true rfl⟩ rfl ?_
        exact fin_o h (by unfold waitsS; rw [if_neg (not_not_intro c_10), if_pos (by grind)]) hC FrM.rf
      · refine a_iload hX dX7_waits_43 rfl ?_
        refine a_callS [_] hX c_X7_isDay mi_X7_isDay ms_X7_isDay li_X7_52 (by decide) rfl rfl (Nat.le_of_ble_eq_true rfl) (fun q => q) dX7_waits_45 ⟨_, rfl, ?_⟩
        refine a_if_eq_b 67 hX dX7_waits_48 (by decide) (fun c_48 => ?_) (fun c_48 => ?_)
        · refine a_iconst (3) hX dX7_waits_67 (by decide) ?_
          refine a_iret hX hR dX7_waits_68 ⟨Nat.le_of_ble_eq_true rfl, Nat.le_of_ble_eq_true rfl⟩ rfl ?_
          exact fin_o h (by unfold waitsS; rw [if_neg (not_not_intro c_10), if_pos (by grind)]) hC FrM.rf
        · refine a_iload hX dX7_waits_51 rfl ?_
          refine a_callS [_] hX c_X7_isNeed mi_X7_isNeed ms_X7_isNeed li_X7_67 (by decide) rfl rfl (Nat.le_of_ble_eq_true rfl) (fun q => q) dX7_waits_53 ⟨_, rfl, ?_⟩
          refine a_if_eq_b 67 hX dX7_waits_56 (by decide) (fun c_56 => ?_) (fun c_56 => ?_)
          · refine a_iconst (3) hX dX7_waits_67 (by decide) ?_
            refine a_iret hX hR dX7_waits_68 ⟨Nat.le_of_ble_eq_true rfl, Nat.le_of_ble_eq_true rfl⟩ rfl ?_
            exact fin_o h (by unfold waitsS; rw [if_neg (not_not_intro c_10), if_pos (by grind)]) hC FrM.rf
          · refine a_iload hX dX7_waits_59 rfl ?_
            refine a_callS [_] hX c_X7_isSet mi_X7_isSet ms_X7_isSet li_X7_76 (by decide) rfl rfl (Nat.le_of_ble_eq_true rfl) (fun q => q) dX7_waits_61 ⟨_, rfl, ?_⟩
            refine a_if_ne_b 69 hX dX7_waits_64 (by decide) (fun c_64 => ?_) (fun c_64 => ?_)
            · obtain ⟨hp0, hl0, hk0⟩ := roomS_0 c_10
              have hkk : 3 ≤ k ∧ k ≤ 5 := by grind
              have hTT : isT f n := ⟨c_48, c_56⟩
              have hSS : isS s := c_64
              obtain ⟨j, hjg, hj6, rfl⟩ := isP_ex ho hp0
              obtain ⟨i, hi, rfl⟩ := isL_ex hl0
              obtain ⟨z, hz, rfl⟩ := isS_ex hSS
              have hF := hC.1.fl hj6
              have hvw : vP (plF w (2 + 1 + 1 + 17 * j)) := (hF.pre ho.n hj6).1
              have hnw : nwE g (nI j) (nI i) (nI z) = newE ((RSn g).1 j) i (nI z) := by
                unfold nwE
                rw [ix_nI (by omega), ix_nI (by omega)]
              have hix : ix (nI i) = i := ix_nI (by omega)
              have hth := thru_new (p := i) (s := nI z) (ho.n.1 j hj6).2.1
              have hlo : ∀ k, k < 12 → ∀ x, 12 ≤ x → bt (w.1 (2 + 1 + 1 + 17 * j + 1 + 4 + k) 4) x = false := fun k hk x hx => by
                obtain ⟨-, -, -, -, ⟨y, hy, ey⟩, -⟩ := hvw k hk
                have ey : w.1 (2 + 1 + 1 + 17 * j + 1 + 4 + k) 4 = nI y := ey
                rw [ey]
                by_cases h32 : x < 32
                · exact low_nat y hy x h32 hx
                · exact b_big (by omega)
              refine a_aload_n hX dX7_waits_69 rfl ?_
              refine gf_X7_48 rfl hX dX7_waits_70 ?_
              refine a_aload_n hX dX7_waits_73 rfl ?_
              refine gf_X7_31 rfl hX dX7_waits_74 ?_
              refine a_iload_n hX dX7_waits_77 rfl ?_
              refine a_callV [_] hX c_X4_fileOf mi_X4_fileOf mv_X4_fileOf se_X4_fileOf (klt rfl (by decide)) (adr_lt (kd_lt rfl (by decide))) (cell_4 rfl) rfl li_X7_79 (by decide) rfl rfl (Nat.le_of_ble_eq_true rfl) (fun q => q) dX7_waits_78 ⟨_, _, rfl, rfl, Or.inl ⟨j, hj6, rfl, ?_⟩⟩
              refine a_iload_n hX dX7_waits_81 rfl ?_
              refine a_iload hX dX7_waits_82 rfl ?_
              refine a_callV [_, _, _] hX c_X5_closes mi_X5_closes mv_X5_closes se_X5_closes (klt rfl (by decide)) (adr_lt (kd_lt rfl (by decide))) (cell_5 rfl) rfl li_X7_83 (by decide) rfl rfl (Nat.le_of_ble_eq_true rfl) (fun q => q) dX7_waits_84 ⟨_, _, _, rfl, (K4_f rfl hj6), hi, hz, hlo, ?_⟩
              refine ⟨fun w84 L84 rg84 hf84 hr84 hs84 hp84 => ?_, fun w84 hf84 hno84 => ?_⟩
              · refine a_if_eq_b 92 hX dX7_waits_87 (by decide) (fun c_87 => ?_) (fun c_87 => ?_)
                · exact absurd trivial c_87
                · refine a_iconst (4) hX dX7_waits_90 (by decide) ?_
                  refine a_iret hX hR dX7_waits_91 ⟨Nat.le_of_ble_eq_true rfl, Nat.le_of_ble_eq_true rfl⟩ rfl ?_
                  have hr9 : ringOf (nwE g (nI j) (nI i) (nI z)) (ix (nI i)) L84 rg84 := by
                    rw [hnw, hix]
                    exact ringOf_cong (newE_ag hF.ag) hi hr84
                  have hex : ∃ x : Nat × (Nat → Nat), ringOf (nwE g (nI j) (nI i) (nI z)) (ix (nI i)) x.1 x.2 := ⟨(L84, rg84), hr9⟩
                  obtain ⟨u1, u2⟩ := ring_uniq (by rw [hix]; exact hi) (by rw [hnw, hix]; exact hth) hr9 (rgN_spec hex)
                  have hS : waitsS g (nI j) (nI i) k f n (nI z) = (4, (gL g, gn g, gp g, gt g, ga g, (rgN (nwE g (nI j) (nI i) (nI z)) (ix (nI i))).1, (rgN (nwE g (nI j) (nI i) (nI z)) (ix (nI i))).2)) := by
                    unfold waitsS
                    rw [if_neg (not_not_intro c_10), if_neg (not_not_intro ⟨hTT, hkk, c_64⟩), if_pos hex]
                  rw [hS] at h
                  exact h w84 (hC.ring hf84 hs84 hp84 u1.symm (fun x hx => (u2 x hx).symm)) (hf84.M (fun z hz => by omega))
              · refine a_if_eq_b 92 hX dX7_waits_87 (by decide) (fun c_87 => ?_) (fun c_87 => ?_)
                · have hno : ¬ ∃ x : Nat × (Nat → Nat), ringOf (nwE g (nI j) (nI i) (nI z)) (ix (nI i)) x.1 x.2 := by
                    rintro ⟨x, hx⟩
                    rw [hnw, hix] at hx
                    exact hno84 x.1 hx.1 hx.2.1 ((wk_cong (newE_ag hF.ag) hi).mpr hx.2.2.1)
                  have hC84 := hC.fr hf84 (fun z hz => by omega)
                  refine a_new hX hZ.2.2 (by have h8 := hC84.1.2.1; have h9 := hC84.1.2.2.1; omega) cl_X7_9 (by have h9 := hZ.1; omega) dX7_waits_92 (fun w92 hn92 => ?_)
                  have hlt : w84.2.2.1 < w92.2.2.1 := by rw [hn92.2.1]; omega
                  refine a_dup hX dX7_waits_95 rfl ?_
                  refine a_aload_n hX dX7_waits_96 rfl ?_
                  refine gf_X7_22 rfl hX dX7_waits_97 ?_
                  refine a_iconst (2) hX dX7_waits_100 (by decide) ?_
                  refine a_iload_n hX dX7_waits_101 rfl ?_
                  refine a_iload_n hX dX7_waits_102 rfl ?_
                  rw [show w92.1 0 3 = nI (gt g) from by rw [hn92.2.2.1 0 (by omega)]; exact hC84.1.1.2.2.1]
                  refine a_callI [_, _, _, _] hX c_X0_init mi_X0_init mv_X0_init rfl li_X7_60 (by decide) rfl rfl (Nat.le_of_ble_eq_true rfl) (fun q => q) dX7_waits_103 ⟨_, _, _, _, _, rfl, hlt, ?_⟩
                  intro w103 h103
                  have e103 : w92.2.2.2 = w103.2.2.2 := by rw [h103.1.1]
                  have hgn := hC84.1.2.2.1
                  have hp := Pd.init hC84.1 hn92 h103.1 h103.2
                  replace hlt : w84.2.2.1 < w103.2.2.1 := by rw [h103.1.1]; exact hlt
                  rw [e103]
                  refine a_astore (ls' := [_, _, _, _, _, _, _, _, _, _]) hX dX7_waits_106 (Nat.le_of_ble_eq_true rfl) rfl ?_
                  refine a_aload hX dX7_waits_108 rfl ?_
                  refine a_iload_n hX dX7_waits_110 rfl ?_
                  refine pf_X7_70 hlt hX dX7_waits_111 ?_
                  refine a_aload hX dX7_waits_114 rfl ?_
                  refine a_iload hX dX7_waits_116 rfl ?_
                  refine pf_X7_73 hlt hX dX7_waits_118 ?_
                  refine a_aload hX dX7_waits_121 rfl ?_
                  refine a_iload hX dX7_waits_123 rfl ?_
                  refine pf_X7_87 hlt hX dX7_waits_125 ?_
                  refine a_aload hX dX7_waits_128 rfl ?_
                  refine a_iload hX dX7_waits_130 rfl ?_
                  refine pf_X7_90 hlt hX dX7_waits_132 ?_
                  refine a_aload_n hX dX7_waits_135 rfl ?_
                  refine a_aload hX dX7_waits_136 rfl ?_
                  refine a_callV [_] hX c_X7_tell mi_X7_tell mv_X7_tell se_X7_tell (klt rfl (by decide)) (adr_lt (kd_lt rfl (by decide))) (cell_7 rfl) rfl li_X7_63 (by decide) rfl rfl (Nat.le_of_ble_eq_true rfl) (fun q => q) dX7_waits_138 ⟨g, w84, en9 (nI (gt g)) 2 (nI j) (nI i) k f n (nI z) 0, rfl, hC84, ((((((((hp).p4 hgn)).p5 hgn)).p6 hgn)).p7 hgn), ho, fun h4 => ok_waits ho h4 c_10 hTT hkk c_64 hno, ?_⟩
                  intro wT hcT hmT
                  refine a_iret hX hR dX7_waits_141 ⟨Nat.le_of_ble_eq_true rfl, Nat.le_of_ble_eq_true rfl⟩ rfl ?_
                  exact fin_t h (by unfold waitsS; rw [if_neg (not_not_intro c_10), if_neg (not_not_intro ⟨hTT, hkk, c_64⟩), if_neg hno]) hcT ((hf84.M (fun z hz => by omega)).tr hmT)
                · exact c_87.elim
            · refine a_iconst (3) hX dX7_waits_67 (by decide) ?_
              refine a_iret hX hR dX7_waits_68 ⟨Nat.le_of_ble_eq_true rfl, Nat.le_of_ble_eq_true rfl⟩ rfl ?_
              exact fin_o h (by unfold waitsS; rw [if_neg (not_not_intro c_10), if_pos (by grind)]) hC FrM.rf
    · refine a_iload_n hX dX7_waits_21 rfl ?_
      refine a_iconst (4) hX dX7_waits_22 (by decide) ?_
      refine a_icmp_eq 31 hX dX7_waits_23 (by decide) (fun c_23 => ?_) (fun c_23 => ?_)
      · refine a_iconst (1) hX dX7_waits_31 (by decide) ?_
        refine a_goto 36 hX dX7_waits_32 (by decide) ?_
        refine a_istore (ls' := [_, _, _, _, _, _, _, _, _, _]) hX dX7_waits_36 (Nat.le_of_ble_eq_true rfl) rfl ?_
        refine a_iload hX dX7_waits_38 rfl ?_
        refine a_if_eq 67 hX dX7_waits_40 (by decide) (fun c_40 => ?_) (fun c_40 => ?_)
        · refine a_iconst (3) hX dX7_waits_67 (by decide) ?_
          refine a_iret hX hR dX7_waits_68 ⟨Nat.le_of_ble_eq_true rfl, Nat.le_of_ble_eq_true rfl⟩ rfl ?_
          exact fin_o h (by unfold waitsS; rw [if_neg (not_not_intro c_10), if_pos (by grind)]) hC FrM.rf
        · refine a_iload hX dX7_waits_43 rfl ?_
          refine a_callS [_] hX c_X7_isDay mi_X7_isDay ms_X7_isDay li_X7_52 (by decide) rfl rfl (Nat.le_of_ble_eq_true rfl) (fun q => q) dX7_waits_45 ⟨_, rfl, ?_⟩
          refine a_if_eq_b 67 hX dX7_waits_48 (by decide) (fun c_48 => ?_) (fun c_48 => ?_)
          · refine a_iconst (3) hX dX7_waits_67 (by decide) ?_
            refine a_iret hX hR dX7_waits_68 ⟨Nat.le_of_ble_eq_true rfl, Nat.le_of_ble_eq_true rfl⟩ rfl ?_
            exact fin_o h (by unfold waitsS; rw [if_neg (not_not_intro c_10), if_pos (by grind)]) hC FrM.rf
          · refine a_iload hX dX7_waits_51 rfl ?_
            refine a_callS [_] hX c_X7_isNeed mi_X7_isNeed ms_X7_isNeed li_X7_67 (by decide) rfl rfl (Nat.le_of_ble_eq_true rfl) (fun q => q) dX7_waits_53 ⟨_, rfl, ?_⟩
            refine a_if_eq_b 67 hX dX7_waits_56 (by decide) (fun c_56 => ?_) (fun c_56 => ?_)
            · refine a_iconst (3) hX dX7_waits_67 (by decide) ?_
              refine a_iret hX hR dX7_waits_68 ⟨Nat.le_of_ble_eq_true rfl, Nat.le_of_ble_eq_true rfl⟩ rfl ?_
              exact fin_o h (by unfold waitsS; rw [if_neg (not_not_intro c_10), if_pos (by grind)]) hC FrM.rf
            · refine a_iload hX dX7_waits_59 rfl ?_
              refine a_callS [_] hX c_X7_isSet mi_X7_isSet ms_X7_isSet li_X7_76 (by decide) rfl rfl (Nat.le_of_ble_eq_true rfl) (fun q => q) dX7_waits_61 ⟨_, rfl, ?_⟩
              refine a_if_ne_b 69 hX dX7_waits_64 (by decide) (fun c_64 => ?_) (fun c_64 => ?_)
              · obtain ⟨hp0, hl0, hk0⟩ := roomS_0 c_10
                have hkk : 3 ≤ k ∧ k ≤ 5 := by grind
                have hTT : isT f n := ⟨c_48, c_56⟩
                have hSS : isS s := c_64
                obtain ⟨j, hjg, hj6, rfl⟩ := isP_ex ho hp0
                obtain ⟨i, hi, rfl⟩ := isL_ex hl0
                obtain ⟨z, hz, rfl⟩ := isS_ex hSS
                have hF := hC.1.fl hj6
                have hvw : vP (plF w (2 + 1 + 1 + 17 * j)) := (hF.pre ho.n hj6).1
                have hnw : nwE g (nI j) (nI i) (nI z) = newE ((RSn g).1 j) i (nI z) := by
                  unfold nwE
                  rw [ix_nI (by omega), ix_nI (by omega)]
                have hix : ix (nI i) = i := ix_nI (by omega)
                have hth := thru_new (p := i) (s := nI z) (ho.n.1 j hj6).2.1
                have hlo : ∀ k, k < 12 → ∀ x, 12 ≤ x → bt (w.1 (2 + 1 + 1 + 17 * j + 1 + 4 + k) 4) x = false := fun k hk x hx => by
                  obtain ⟨-, -, -, -, ⟨y, hy, ey⟩, -⟩ := hvw k hk
                  have ey : w.1 (2 + 1 + 1 + 17 * j + 1 + 4 + k) 4 = nI y := ey
                  rw [ey]
                  by_cases h32 : x < 32
                  · exact low_nat y hy x h32 hx
                  · exact b_big (by omega)
                refine a_aload_n hX dX7_waits_69 rfl ?_
                refine gf_X7_48 rfl hX dX7_waits_70 ?_
                refine a_aload_n hX dX7_waits_73 rfl ?_
                refine gf_X7_31 rfl hX dX7_waits_74 ?_
                refine a_iload_n hX dX7_waits_77 rfl ?_
                refine a_callV [_] hX c_X4_fileOf mi_X4_fileOf mv_X4_fileOf se_X4_fileOf (klt rfl (by decide)) (adr_lt (kd_lt rfl (by decide))) (cell_4 rfl) rfl li_X7_79 (by decide) rfl rfl (Nat.le_of_ble_eq_true rfl) (fun q => q) dX7_waits_78 ⟨_, _, rfl, rfl, Or.inl ⟨j, hj6, rfl, ?_⟩⟩
                refine a_iload_n hX dX7_waits_81 rfl ?_
                refine a_iload hX dX7_waits_82 rfl ?_
                refine a_callV [_, _, _] hX c_X5_closes mi_X5_closes mv_X5_closes se_X5_closes (klt rfl (by decide)) (adr_lt (kd_lt rfl (by decide))) (cell_5 rfl) rfl li_X7_83 (by decide) rfl rfl (Nat.le_of_ble_eq_true rfl) (fun q => q) dX7_waits_84 ⟨_, _, _, rfl, (K4_f rfl hj6), hi, hz, hlo, ?_⟩
                refine ⟨fun w84 L84 rg84 hf84 hr84 hs84 hp84 => ?_, fun w84 hf84 hno84 => ?_⟩
                · refine a_if_eq_b 92 hX dX7_waits_87 (by decide) (fun c_87 => ?_) (fun c_87 => ?_)
                  · exact absurd trivial c_87
                  · refine a_iconst (4) hX dX7_waits_90 (by decide) ?_
                    refine a_iret hX hR dX7_waits_91 ⟨Nat.le_of_ble_eq_true rfl, Nat.le_of_ble_eq_true rfl⟩ rfl ?_
                    have hr9 : ringOf (nwE g (nI j) (nI i) (nI z)) (ix (nI i)) L84 rg84 := by
                      rw [hnw, hix]
                      exact ringOf_cong (newE_ag hF.ag) hi hr84
                    have hex : ∃ x : Nat × (Nat → Nat), ringOf (nwE g (nI j) (nI i) (nI z)) (ix (nI i)) x.1 x.2 := ⟨(L84, rg84), hr9⟩
                    obtain ⟨u1, u2⟩ := ring_uniq (by rw [hix]; exact hi) (by rw [hnw, hix]; exact hth) hr9 (rgN_spec hex)
                    have hS : waitsS g (nI j) (nI i) k f n (nI z) = (4, (gL g, gn g, gp g, gt g, ga g, (rgN (nwE g (nI j) (nI i) (nI z)) (ix (nI i))).1, (rgN (nwE g (nI j) (nI i) (nI z)) (ix (nI i))).2)) := by
                      unfold waitsS
                      rw [if_neg (not_not_intro c_10), if_neg (not_not_intro ⟨hTT, hkk, c_64⟩), if_pos hex]
                    rw [hS] at h
                    exact h w84 (hC.ring hf84 hs84 hp84 u1.symm (fun x hx => (u2 x hx).symm)) (hf84.M (fun z hz => by omega))
                · refine a_if_eq_b 92 hX dX7_waits_87 (by decide) (fun c_87 => ?_) (fun c_87 => ?_)
                  · have hno : ¬ ∃ x : Nat × (Nat → Nat), ringOf (nwE g (nI j) (nI i) (nI z)) (ix (nI i)) x.1 x.2 := by
                      rintro ⟨x, hx⟩
                      rw [hnw, hix] at hx
                      exact hno84 x.1 hx.1 hx.2.1 ((wk_cong (newE_ag hF.ag) hi).mpr hx.2.2.1)
                    have hC84 := hC.fr hf84 (fun z hz => by omega)
                    refine a_new hX hZ.2.2 (by have h8 := hC84.1.2.1; have h9 := hC84.1.2.2.1; omega) cl_X7_9 (by have h9 := hZ.1; omega) dX7_waits_92 (fun w92 hn92 => ?_)
                    have hlt : w84.2.2.1 < w92.2.2.1 := by rw [hn92.2.1]; omega
                    refine a_dup hX dX7_waits_95 rfl ?_
                    refine a_aload_n hX dX7_waits_96 rfl ?_
                    refine gf_X7_22 rfl hX dX7_waits_97 ?_
                    refine a_iconst (2) hX dX7_waits_100 (by decide) ?_
                    refine a_iload_n hX dX7_waits_101 rfl ?_
                    refine a_iload_n hX dX7_waits_102 rfl ?_
                    rw [show w92.1 0 3 = nI (gt g) from by rw [hn92.2.2.1 0 (by omega)]; exact hC84.1.1.2.2.1]
                    refine a_callI [_, _, _, _] hX c_X0_init mi_X0_init mv_X0_init rfl li_X7_60 (by decide) rfl rfl (Nat.le_of_ble_eq_true rfl) (fun q => q) dX7_waits_103 ⟨_, _, _, _, _, rfl, hlt, ?_⟩
                    intro w103 h103
                    have e103 : w92.2.2.2 = w103.2.2.2 := by rw [h103.1.1]
                    have hgn := hC84.1.2.2.1
                    have hp := Pd.init hC84.1 hn92 h103.1 h103.2
                    replace hlt : w84.2.2.1 < w103.2.2.1 := by rw [h103.1.1]; exact hlt
                    rw [e103]
                    refine a_astore (ls' := [_, _, _, _, _, _, _, _, _, _]) hX dX7_waits_106 (Nat.le_of_ble_eq_true rfl) rfl ?_
                    refine a_aload hX dX7_waits_108 rfl ?_
                    refine a_iload_n hX dX7_waits_110 rfl ?_
                    refine pf_X7_70 hlt hX dX7_waits_111 ?_
                    refine a_aload hX dX7_waits_114 rfl ?_
                    refine a_iload hX dX7_waits_116 rfl ?_
                    refine pf_X7_73 hlt hX dX7_waits_118 ?_
                    refine a_aload hX dX7_waits_121 rfl ?_
                    refine a_iload hX dX7_waits_123 rfl ?_
                    refine pf_X7_87 hlt hX dX7_waits_125 ?_
                    refine a_aload hX dX7_waits_128 rfl ?_
                    refine a_iload hX dX7_waits_130 rfl ?_
                    refine pf_X7_90 hlt hX dX7_waits_132 ?_
                    refine a_aload_n hX dX7_waits_135 rfl ?_
                    refine a_aload hX dX7_waits_136 rfl ?_
                    refine a_callV [_] hX c_X7_tell mi_X7_tell mv_X7_tell se_X7_tell (klt rfl (by decide)) (adr_lt (kd_lt rfl (by decide))) (cell_7 rfl) rfl li_X7_63 (by decide) rfl rfl (Nat.le_of_ble_eq_true rfl) (fun q => q) dX7_waits_138 ⟨g, w84, en9 (nI (gt g)) 2 (nI j) (nI i) k f n (nI z) 0, rfl, hC84, ((((((((hp).p4 hgn)).p5 hgn)).p6 hgn)).p7 hgn), ho, fun h4 => ok_waits ho h4 c_10 hTT hkk c_64 hno, ?_⟩
                    intro wT hcT hmT
                    refine a_iret hX hR dX7_waits_141 ⟨Nat.le_of_ble_eq_true rfl, Nat.le_of_ble_eq_true rfl⟩ rfl ?_
                    exact fin_t h (by unfold waitsS; rw [if_neg (not_not_intro c_10), if_neg (not_not_intro ⟨hTT, hkk, c_64⟩), if_neg hno]) hcT ((hf84.M (fun z hz => by omega)).tr hmT)
                  · exact c_87.elim
              · refine a_iconst (3) hX dX7_waits_67 (by decide) ?_
                refine a_iret hX hR dX7_waits_68 ⟨Nat.le_of_ble_eq_true rfl, Nat.le_of_ble_eq_true rfl⟩ rfl ?_
                exact fin_o h (by unfold waitsS; rw [if_neg (not_not_intro c_10), if_pos (by grind)]) hC FrM.rf
      · refine a_iload_n hX dX7_waits_26 rfl ?_
        refine a_iconst (5) hX dX7_waits_27 (by decide) ?_
        refine a_icmp_ne 35 hX dX7_waits_28 (by decide) (fun c_28 => ?_) (fun c_28 => ?_)
        · refine a_iconst (0) hX dX7_waits_35 (by decide) ?_
          refine a_istore (ls' := [_, _, _, _, _, _, _, _, _, _]) hX dX7_waits_36 (Nat.le_of_ble_eq_true rfl) rfl ?_
          refine a_iload hX dX7_waits_38 rfl ?_
          refine a_if_eq 67 hX dX7_waits_40 (by decide) (fun c_40 => ?_) (fun c_40 => ?_)
          · refine a_iconst (3) hX dX7_waits_67 (by decide) ?_
            refine a_iret hX hR dX7_waits_68 ⟨Nat.le_of_ble_eq_true rfl, Nat.le_of_ble_eq_true rfl⟩ rfl ?_
            exact fin_o h (by unfold waitsS; rw [if_neg (not_not_intro c_10), if_pos (by grind)]) hC FrM.rf
          · refine a_iload hX dX7_waits_43 rfl ?_
            refine a_callS [_] hX c_X7_isDay mi_X7_isDay ms_X7_isDay li_X7_52 (by decide) rfl rfl (Nat.le_of_ble_eq_true rfl) (fun q => q) dX7_waits_45 ⟨_, rfl, ?_⟩
            refine a_if_eq_b 67 hX dX7_waits_48 (by decide) (fun c_48 => ?_) (fun c_48 => ?_)
            · refine a_iconst (3) hX dX7_waits_67 (by decide) ?_
              refine a_iret hX hR dX7_waits_68 ⟨Nat.le_of_ble_eq_true rfl, Nat.le_of_ble_eq_true rfl⟩ rfl ?_
              exact fin_o h (by unfold waitsS; rw [if_neg (not_not_intro c_10), if_pos (by grind)]) hC FrM.rf
            · refine a_iload hX dX7_waits_51 rfl ?_
              refine a_callS [_] hX c_X7_isNeed mi_X7_isNeed ms_X7_isNeed li_X7_67 (by decide) rfl rfl (Nat.le_of_ble_eq_true rfl) (fun q => q) dX7_waits_53 ⟨_, rfl, ?_⟩
              refine a_if_eq_b 67 hX dX7_waits_56 (by decide) (fun c_56 => ?_) (fun c_56 => ?_)
              · refine a_iconst (3) hX dX7_waits_67 (by decide) ?_
                refine a_iret hX hR dX7_waits_68 ⟨Nat.le_of_ble_eq_true rfl, Nat.le_of_ble_eq_true rfl⟩ rfl ?_
                exact fin_o h (by unfold waitsS; rw [if_neg (not_not_intro c_10), if_pos (by grind)]) hC FrM.rf
              · refine a_iload hX dX7_waits_59 rfl ?_
                refine a_callS [_] hX c_X7_isSet mi_X7_isSet ms_X7_isSet li_X7_76 (by decide) rfl rfl (Nat.le_of_ble_eq_true rfl) (fun q => q) dX7_waits_61 ⟨_, rfl, ?_⟩
                refine a_if_ne_b 69 hX dX7_waits_64 (by decide) (fun c_64 => ?_) (fun c_64 => ?_)
                · obtain ⟨hp0, hl0, hk0⟩ := roomS_0 c_10
                  have hkk : 3 ≤ k ∧ k ≤ 5 := by grind
                  have hTT : isT f n := ⟨c_48, c_56⟩
                  have hSS : isS s := c_64
                  obtain ⟨j, hjg, hj6, rfl⟩ := isP_ex ho hp0
                  obtain ⟨i, hi, rfl⟩ := isL_ex hl0
                  obtain ⟨z, hz, rfl⟩ := isS_ex hSS
                  have hF := hC.1.fl hj6
                  have hvw : vP (plF w (2 + 1 + 1 + 17 * j)) := (hF.pre ho.n hj6).1
                  have hnw : nwE g (nI j) (nI i) (nI z) = newE ((RSn g).1 j) i (nI z) := by
                    unfold nwE
                    rw [ix_nI (by omega), ix_nI (by omega)]
                  have hix : ix (nI i) = i := ix_nI (by omega)
                  have hth := thru_new (p := i) (s := nI z) (ho.n.1 j hj6).2.1
                  have hlo : ∀ k, k < 12 → ∀ x, 12 ≤ x → bt (w.1 (2 + 1 + 1 + 17 * j + 1 + 4 + k) 4) x = false := fun k hk x hx => by
                    obtain ⟨-, -, -, -, ⟨y, hy, ey⟩, -⟩ := hvw k hk
                    have ey : w.1 (2 + 1 + 1 + 17 * j + 1 + 4 + k) 4 = nI y := ey
                    rw [ey]
                    by_cases h32 : x < 32
                    · exact low_nat y hy x h32 hx
                    · exact b_big (by omega)
                  refine a_aload_n hX dX7_waits_69 rfl ?_
                  refine gf_X7_48 rfl hX dX7_waits_70 ?_
                  refine a_aload_n hX dX7_waits_73 rfl ?_
                  refine gf_X7_31 rfl hX dX7_waits_74 ?_
                  refine a_iload_n hX dX7_waits_77 rfl ?_
                  refine a_callV [_] hX c_X4_fileOf mi_X4_fileOf mv_X4_fileOf se_X4_fileOf (klt rfl (by decide)) (adr_lt (kd_lt rfl (by decide))) (cell_4 rfl) rfl li_X7_79 (by decide) rfl rfl (Nat.le_of_ble_eq_true rfl) (fun q => q) dX7_waits_78 ⟨_, _, rfl, rfl, Or.inl ⟨j, hj6, rfl, ?_⟩⟩
                  refine a_iload_n hX dX7_waits_81 rfl ?_
                  refine a_iload hX dX7_waits_82 rfl ?_
                  refine a_callV [_, _, _] hX c_X5_closes mi_X5_closes mv_X5_closes se_X5_closes (klt rfl (by decide)) (adr_lt (kd_lt rfl (by decide))) (cell_5 rfl) rfl li_X7_83 (by decide) rfl rfl (Nat.le_of_ble_eq_true rfl) (fun q => q) dX7_waits_84 ⟨_, _, _, rfl, (K4_f rfl hj6), hi, hz, hlo, ?_⟩
                  refine ⟨fun w84 L84 rg84 hf84 hr84 hs84 hp84 => ?_, fun w84 hf84 hno84 => ?_⟩
                  · refine a_if_eq_b 92 hX dX7_waits_87 (by decide) (fun c_87 => ?_) (fun c_87 => ?_)
                    · exact absurd trivial c_87
                    · refine a_iconst (4) hX dX7_waits_90 (by decide) ?_
                      refine a_iret hX hR dX7_waits_91 ⟨Nat.le_of_ble_eq_true rfl, Nat.le_of_ble_eq_true rfl⟩ rfl ?_
                      have hr9 : ringOf (nwE g (nI j) (nI i) (nI z)) (ix (nI i)) L84 rg84 := by
                        rw [hnw, hix]
                        exact ringOf_cong (newE_ag hF.ag) hi hr84
                      have hex : ∃ x : Nat × (Nat → Nat), ringOf (nwE g (nI j) (nI i) (nI z)) (ix (nI i)) x.1 x.2 := ⟨(L84, rg84), hr9⟩
                      obtain ⟨u1, u2⟩ := ring_uniq (by rw [hix]; exact hi) (by rw [hnw, hix]; exact hth) hr9 (rgN_spec hex)
                      have hS : waitsS g (nI j) (nI i) k f n (nI z) = (4, (gL g, gn g, gp g, gt g, ga g, (rgN (nwE g (nI j) (nI i) (nI z)) (ix (nI i))).1, (rgN (nwE g (nI j) (nI i) (nI z)) (ix (nI i))).2)) := by
                        unfold waitsS
                        rw [if_neg (not_not_intro c_10), if_neg (not_not_intro ⟨hTT, hkk, c_64⟩), if_pos hex]
                      rw [hS] at h
                      exact h w84 (hC.ring hf84 hs84 hp84 u1.symm (fun x hx => (u2 x hx).symm)) (hf84.M (fun z hz => by omega))
                  · refine a_if_eq_b 92 hX dX7_waits_87 (by decide) (fun c_87 => ?_) (fun c_87 => ?_)
                    · have hno : ¬ ∃ x : Nat × (Nat → Nat), ringOf (nwE g (nI j) (nI i) (nI z)) (ix (nI i)) x.1 x.2 := by
                        rintro ⟨x, hx⟩
                        rw [hnw, hix] at hx
                        exact hno84 x.1 hx.1 hx.2.1 ((wk_cong (newE_ag hF.ag) hi).mpr hx.2.2.1)
                      have hC84 := hC.fr hf84 (fun z hz => by omega)
                      refine a_new hX hZ.2.2 (by have h8 := hC84.1.2.1; have h9 := hC84.1.2.2.1; omega) cl_X7_9 (by have h9 := hZ.1; omega) dX7_waits_92 (fun w92 hn92 => ?_)
                      have hlt : w84.2.2.1 < w92.2.2.1 := by rw [hn92.2.1]; omega
                      refine a_dup hX dX7_waits_95 rfl ?_
                      refine a_aload_n hX dX7_waits_96 rfl ?_
                      refine gf_X7_22 rfl hX dX7_waits_97 ?_
                      refine a_iconst (2) hX dX7_waits_100 (by decide) ?_
                      refine a_iload_n hX dX7_waits_101 rfl ?_
                      refine a_iload_n hX dX7_waits_102 rfl ?_
                      rw [show w92.1 0 3 = nI (gt g) from by rw [hn92.2.2.1 0 (by omega)]; exact hC84.1.1.2.2.1]
                      refine a_callI [_, _, _, _] hX c_X0_init mi_X0_init mv_X0_init rfl li_X7_60 (by decide) rfl rfl (Nat.le_of_ble_eq_true rfl) (fun q => q) dX7_waits_103 ⟨_, _, _, _, _, rfl, hlt, ?_⟩
                      intro w103 h103
                      have e103 : w92.2.2.2 = w103.2.2.2 := by rw [h103.1.1]
                      have hgn := hC84.1.2.2.1
                      have hp := Pd.init hC84.1 hn92 h103.1 h103.2
                      replace hlt : w84.2.2.1 < w103.2.2.1 := by rw [h103.1.1]; exact hlt
                      rw [e103]
                      refine a_astore (ls' := [_, _, _, _, _, _, _, _, _, _]) hX dX7_waits_106 (Nat.le_of_ble_eq_true rfl) rfl ?_
                      refine a_aload hX dX7_waits_108 rfl ?_
                      refine a_iload_n hX dX7_waits_110 rfl ?_
                      refine pf_X7_70 hlt hX dX7_waits_111 ?_
                      refine a_aload hX dX7_waits_114 rfl ?_
                      refine a_iload hX dX7_waits_116 rfl ?_
                      refine pf_X7_73 hlt hX dX7_waits_118 ?_
                      refine a_aload hX dX7_waits_121 rfl ?_
                      refine a_iload hX dX7_waits_123 rfl ?_
                      refine pf_X7_87 hlt hX dX7_waits_125 ?_
                      refine a_aload hX dX7_waits_128 rfl ?_
                      refine a_iload hX dX7_waits_130 rfl ?_
                      refine pf_X7_90 hlt hX dX7_waits_132 ?_
                      refine a_aload_n hX dX7_waits_135 rfl ?_
                      refine a_aload hX dX7_waits_136 rfl ?_
                      refine a_callV [_] hX c_X7_tell mi_X7_tell mv_X7_tell se_X7_tell (klt rfl (by decide)) (adr_lt (kd_lt rfl (by decide))) (cell_7 rfl) rfl li_X7_63 (by decide) rfl rfl (Nat.le_of_ble_eq_true rfl) (fun q => q) dX7_waits_138 ⟨g, w84, en9 (nI (gt g)) 2 (nI j) (nI i) k f n (nI z) 0, rfl, hC84, ((((((((hp).p4 hgn)).p5 hgn)).p6 hgn)).p7 hgn), ho, fun h4 => ok_waits ho h4 c_10 hTT hkk c_64 hno, ?_⟩
                      intro wT hcT hmT
                      refine a_iret hX hR dX7_waits_141 ⟨Nat.le_of_ble_eq_true rfl, Nat.le_of_ble_eq_true rfl⟩ rfl ?_
                      exact fin_t h (by unfold waitsS; rw [if_neg (not_not_intro c_10), if_neg (not_not_intro ⟨hTT, hkk, c_64⟩), if_neg hno]) hcT ((hf84.M (fun z hz => by omega)).tr hmT)
                    · exact c_87.elim
                · refine a_iconst (3) hX dX7_waits_67 (by decide) ?_
                  refine a_iret hX hR dX7_waits_68 ⟨Nat.le_of_ble_eq_true rfl, Nat.le_of_ble_eq_true rfl⟩ rfl ?_
                  exact fin_o h (by unfold waitsS; rw [if_neg (not_not_intro c_10), if_pos (by grind)]) hC FrM.rf
        · refine a_iconst (1) hX dX7_waits_31 (by decide) ?_
          refine a_goto 36 hX dX7_waits_32 (by decide) ?_
          refine a_istore (ls' := [_, _, _, _, _, _, _, _, _, _]) hX dX7_waits_36 (Nat.le_of_ble_eq_true rfl) rfl ?_
          refine a_iload hX dX7_waits_38 rfl ?_
          refine a_if_eq 67 hX dX7_waits_40 (by decide) (fun c_40 => ?_) (fun c_40 => ?_)
          · refine a_iconst (3) hX dX7_waits_67 (by decide) ?_
            refine a_iret hX hR dX7_waits_68 ⟨Nat.le_of_ble_eq_true rfl, Nat.le_of_ble_eq_true rfl⟩ rfl ?_
            exact fin_o h (by unfold waitsS; rw [if_neg (not_not_intro c_10), if_pos (by grind)]) hC FrM.rf
          · refine a_iload hX dX7_waits_43 rfl ?_
            refine a_callS [_] hX c_X7_isDay mi_X7_isDay ms_X7_isDay li_X7_52 (by decide) rfl rfl (Nat.le_of_ble_eq_true rfl) (fun q => q) dX7_waits_45 ⟨_, rfl, ?_⟩
            refine a_if_eq_b 67 hX dX7_waits_48 (by decide) (fun c_48 => ?_) (fun c_48 => ?_)
            · refine a_iconst (3) hX dX7_waits_67 (by decide) ?_
              refine a_iret hX hR dX7_waits_68 ⟨Nat.le_of_ble_eq_true rfl, Nat.le_of_ble_eq_true rfl⟩ rfl ?_
              exact fin_o h (by unfold waitsS; rw [if_neg (not_not_intro c_10), if_pos (by grind)]) hC FrM.rf
            · refine a_iload hX dX7_waits_51 rfl ?_
              refine a_callS [_] hX c_X7_isNeed mi_X7_isNeed ms_X7_isNeed li_X7_67 (by decide) rfl rfl (Nat.le_of_ble_eq_true rfl) (fun q => q) dX7_waits_53 ⟨_, rfl, ?_⟩
              refine a_if_eq_b 67 hX dX7_waits_56 (by decide) (fun c_56 => ?_) (fun c_56 => ?_)
              · refine a_iconst (3) hX dX7_waits_67 (by decide) ?_
                refine a_iret hX hR dX7_waits_68 ⟨Nat.le_of_ble_eq_true rfl, Nat.le_of_ble_eq_true rfl⟩ rfl ?_
                exact fin_o h (by unfold waitsS; rw [if_neg (not_not_intro c_10), if_pos (by grind)]) hC FrM.rf
              · refine a_iload hX dX7_waits_59 rfl ?_
                refine a_callS [_] hX c_X7_isSet mi_X7_isSet ms_X7_isSet li_X7_76 (by decide) rfl rfl (Nat.le_of_ble_eq_true rfl) (fun q => q) dX7_waits_61 ⟨_, rfl, ?_⟩
                refine a_if_ne_b 69 hX dX7_waits_64 (by decide) (fun c_64 => ?_) (fun c_64 => ?_)
                · obtain ⟨hp0, hl0, hk0⟩ := roomS_0 c_10
                  have hkk : 3 ≤ k ∧ k ≤ 5 := by grind
                  have hTT : isT f n := ⟨c_48, c_56⟩
                  have hSS : isS s := c_64
                  obtain ⟨j, hjg, hj6, rfl⟩ := isP_ex ho hp0
                  obtain ⟨i, hi, rfl⟩ := isL_ex hl0
                  obtain ⟨z, hz, rfl⟩ := isS_ex hSS
                  have hF := hC.1.fl hj6
                  have hvw : vP (plF w (2 + 1 + 1 + 17 * j)) := (hF.pre ho.n hj6).1
                  have hnw : nwE g (nI j) (nI i) (nI z) = newE ((RSn g).1 j) i (nI z) := by
                    unfold nwE
                    rw [ix_nI (by omega), ix_nI (by omega)]
                  have hix : ix (nI i) = i := ix_nI (by omega)
                  have hth := thru_new (p := i) (s := nI z) (ho.n.1 j hj6).2.1
                  have hlo : ∀ k, k < 12 → ∀ x, 12 ≤ x → bt (w.1 (2 + 1 + 1 + 17 * j + 1 + 4 + k) 4) x = false := fun k hk x hx => by
                    obtain ⟨-, -, -, -, ⟨y, hy, ey⟩, -⟩ := hvw k hk
                    have ey : w.1 (2 + 1 + 1 + 17 * j + 1 + 4 + k) 4 = nI y := ey
                    rw [ey]
                    by_cases h32 : x < 32
                    · exact low_nat y hy x h32 hx
                    · exact b_big (by omega)
                  refine a_aload_n hX dX7_waits_69 rfl ?_
                  refine gf_X7_48 rfl hX dX7_waits_70 ?_
                  refine a_aload_n hX dX7_waits_73 rfl ?_
                  refine gf_X7_31 rfl hX dX7_waits_74 ?_
                  refine a_iload_n hX dX7_waits_77 rfl ?_
                  refine a_callV [_] hX c_X4_fileOf mi_X4_fileOf mv_X4_fileOf se_X4_fileOf (klt rfl (by decide)) (adr_lt (kd_lt rfl (by decide))) (cell_4 rfl) rfl li_X7_79 (by decide) rfl rfl (Nat.le_of_ble_eq_true rfl) (fun q => q) dX7_waits_78 ⟨_, _, rfl, rfl, Or.inl ⟨j, hj6, rfl, ?_⟩⟩
                  refine a_iload_n hX dX7_waits_81 rfl ?_
                  refine a_iload hX dX7_waits_82 rfl ?_
                  refine a_callV [_, _, _] hX c_X5_closes mi_X5_closes mv_X5_closes se_X5_closes (klt rfl (by decide)) (adr_lt (kd_lt rfl (by decide))) (cell_5 rfl) rfl li_X7_83 (by decide) rfl rfl (Nat.le_of_ble_eq_true rfl) (fun q => q) dX7_waits_84 ⟨_, _, _, rfl, (K4_f rfl hj6), hi, hz, hlo, ?_⟩
                  refine ⟨fun w84 L84 rg84 hf84 hr84 hs84 hp84 => ?_, fun w84 hf84 hno84 => ?_⟩
                  · refine a_if_eq_b 92 hX dX7_waits_87 (by decide) (fun c_87 => ?_) (fun c_87 => ?_)
                    · exact absurd trivial c_87
                    · refine a_iconst (4) hX dX7_waits_90 (by decide) ?_
                      refine a_iret hX hR dX7_waits_91 ⟨Nat.le_of_ble_eq_true rfl, Nat.le_of_ble_eq_true rfl⟩ rfl ?_
                      have hr9 : ringOf (nwE g (nI j) (nI i) (nI z)) (ix (nI i)) L84 rg84 := by
                        rw [hnw, hix]
                        exact ringOf_cong (newE_ag hF.ag) hi hr84
                      have hex : ∃ x : Nat × (Nat → Nat), ringOf (nwE g (nI j) (nI i) (nI z)) (ix (nI i)) x.1 x.2 := ⟨(L84, rg84), hr9⟩
                      obtain ⟨u1, u2⟩ := ring_uniq (by rw [hix]; exact hi) (by rw [hnw, hix]; exact hth) hr9 (rgN_spec hex)
                      have hS : waitsS g (nI j) (nI i) k f n (nI z) = (4, (gL g, gn g, gp g, gt g, ga g, (rgN (nwE g (nI j) (nI i) (nI z)) (ix (nI i))).1, (rgN (nwE g (nI j) (nI i) (nI z)) (ix (nI i))).2)) := by
                        unfold waitsS
                        rw [if_neg (not_not_intro c_10), if_neg (not_not_intro ⟨hTT, hkk, c_64⟩), if_pos hex]
                      rw [hS] at h
                      exact h w84 (hC.ring hf84 hs84 hp84 u1.symm (fun x hx => (u2 x hx).symm)) (hf84.M (fun z hz => by omega))
                  · refine a_if_eq_b 92 hX dX7_waits_87 (by decide) (fun c_87 => ?_) (fun c_87 => ?_)
                    · have hno : ¬ ∃ x : Nat × (Nat → Nat), ringOf (nwE g (nI j) (nI i) (nI z)) (ix (nI i)) x.1 x.2 := by
                        rintro ⟨x, hx⟩
                        rw [hnw, hix] at hx
                        exact hno84 x.1 hx.1 hx.2.1 ((wk_cong (newE_ag hF.ag) hi).mpr hx.2.2.1)
                      have hC84 := hC.fr hf84 (fun z hz => by omega)
                      refine a_new hX hZ.2.2 (by have h8 := hC84.1.2.1; have h9 := hC84.1.2.2.1; omega) cl_X7_9 (by have h9 := hZ.1; omega) dX7_waits_92 (fun w92 hn92 => ?_)
                      have hlt : w84.2.2.1 < w92.2.2.1 := by rw [hn92.2.1]; omega
                      refine a_dup hX dX7_waits_95 rfl ?_
                      refine a_aload_n hX dX7_waits_96 rfl ?_
                      refine gf_X7_22 rfl hX dX7_waits_97 ?_
                      refine a_iconst (2) hX dX7_waits_100 (by decide) ?_
                      refine a_iload_n hX dX7_waits_101 rfl ?_
                      refine a_iload_n hX dX7_waits_102 rfl ?_
                      rw [show w92.1 0 3 = nI (gt g) from by rw [hn92.2.2.1 0 (by omega)]; exact hC84.1.1.2.2.1]
                      refine a_callI [_, _, _, _] hX c_X0_init mi_X0_init mv_X0_init rfl li_X7_60 (by decide) rfl rfl (Nat.le_of_ble_eq_true rfl) (fun q => q) dX7_waits_103 ⟨_, _, _, _, _, rfl, hlt, ?_⟩
                      intro w103 h103
                      have e103 : w92.2.2.2 = w103.2.2.2 := by rw [h103.1.1]
                      have hgn := hC84.1.2.2.1
                      have hp := Pd.init hC84.1 hn92 h103.1 h103.2
                      replace hlt : w84.2.2.1 < w103.2.2.1 := by rw [h103.1.1]; exact hlt
                      rw [e103]
                      refine a_astore (ls' := [_, _, _, _, _, _, _, _, _, _]) hX dX7_waits_106 (Nat.le_of_ble_eq_true rfl) rfl ?_
                      refine a_aload hX dX7_waits_108 rfl ?_
                      refine a_iload_n hX dX7_waits_110 rfl ?_
                      refine pf_X7_70 hlt hX dX7_waits_111 ?_
                      refine a_aload hX dX7_waits_114 rfl ?_
                      refine a_iload hX dX7_waits_116 rfl ?_
                      refine pf_X7_73 hlt hX dX7_waits_118 ?_
                      refine a_aload hX dX7_waits_121 rfl ?_
                      refine a_iload hX dX7_waits_123 rfl ?_
                      refine pf_X7_87 hlt hX dX7_waits_125 ?_
                      refine a_aload hX dX7_waits_128 rfl ?_
                      refine a_iload hX dX7_waits_130 rfl ?_
                      refine pf_X7_90 hlt hX dX7_waits_132 ?_
                      refine a_aload_n hX dX7_waits_135 rfl ?_
                      refine a_aload hX dX7_waits_136 rfl ?_
                      refine a_callV [_] hX c_X7_tell mi_X7_tell mv_X7_tell se_X7_tell (klt rfl (by decide)) (adr_lt (kd_lt rfl (by decide))) (cell_7 rfl) rfl li_X7_63 (by decide) rfl rfl (Nat.le_of_ble_eq_true rfl) (fun q => q) dX7_waits_138 ⟨g, w84, en9 (nI (gt g)) 2 (nI j) (nI i) k f n (nI z) 0, rfl, hC84, ((((((((hp).p4 hgn)).p5 hgn)).p6 hgn)).p7 hgn), ho, fun h4 => ok_waits ho h4 c_10 hTT hkk c_64 hno, ?_⟩
                      intro wT hcT hmT
                      refine a_iret hX hR dX7_waits_141 ⟨Nat.le_of_ble_eq_true rfl, Nat.le_of_ble_eq_true rfl⟩ rfl ?_
                      exact fin_t h (by unfold waitsS; rw [if_neg (not_not_intro c_10), if_neg (not_not_intro ⟨hTT, hkk, c_64⟩), if_neg hno]) hcT ((hf84.M (fun z hz => by omega)).tr hmT)
                    · exact c_87.elim
                · refine a_iconst (3) hX dX7_waits_67 (by decide) ?_
                  refine a_iret hX hR dX7_waits_68 ⟨Nat.le_of_ble_eq_true rfl, Nat.le_of_ble_eq_true rfl⟩ rfl ?_
                  exact fin_o h (by unfold waitsS; rw [if_neg (not_not_intro c_10), if_pos (by grind)]) hC FrM.rf
  · refine a_iload hX dX7_waits_13 rfl ?_
    refine a_iret hX hR dX7_waits_15 ⟨Nat.le_of_ble_eq_true rfl, Nat.le_of_ble_eq_true rfl⟩ rfl ?_
    exact fin_o h (by unfold waitsS; rw [if_pos c_10]) hC FrM.rf
abbrev T_X7_back : Tr := fun lay av w Po => ∃ (g : Sg) (p l d : Int32), av = [.ref (lay 0), .int p, .int l, .int d] ∧ (CI g w) ∧ (okS g) ∧ ∀ w' : St, CI (backS g p l d).2 w' → FrM w w' → Po (some (.int (backS g p l d).1)) w'
set_option maxRecDepth 100000 in
set_option maxHeartbeats 4000000 in
theorem c_X7_back : Ct yX7_back cX7_back 8 (some .int) 6 1 9 T_X7_back := by
  refine Ct.mk2 (by decide +kernel) ?_
  intro X av w Po hX hR hZ hT
  obtain ⟨g, p, l, d, rfl, hC, ho, h⟩ := hT
  refine ⟨rfl, ?_⟩
  show A X 0 0 0 [some (.ref (xlay X 0)), some (.int p), some (.int l), some (.int d), none, none, none, none] [] w
  refine a_aload_n hX dX7_back_0 rfl ?_
  refine a_aload_n hX dX7_back_1 rfl ?_
  refine gf_X7_31 rfl hX dX7_back_2 ?_
  refine a_iload_n hX dX7_back_5 rfl ?_
  refine a_callV [_, _] hX c_X7_fileOf mi_X7_fileOf mv_X7_fileOf se_X7_fileOf (klt rfl (by decide)) (adr_lt (kd_lt rfl (by decide))) (cell_7 rfl) rfl li_X7_112 (by decide) rfl rfl (Nat.le_of_ble_eq_true rfl) (fun q => q) dX7_back_6 ⟨2, (gp g), _, rfl, rfl, hC.1.1.2.1, ho.1.2.1, ?_⟩
  refine ⟨fun j6 hj6 hj66 e6 => ?_, fun hn6 => ?_⟩
  · subst e6
    refine a_astore (ls' := [_, _, _, _, _, _, _, _]) hX dX7_back_9 (Nat.le_of_ble_eq_true rfl) rfl ?_
    refine a_aload hX dX7_back_11 rfl ?_
    refine a_ifnonnull 20 hX dX7_back_13 (by decide) ?_
    refine a_aload hX dX7_back_20 rfl ?_
    refine a_iload_n hX dX7_back_22 rfl ?_
    rcases rng_cs l 12 (by decide) with ⟨i, hi, rfl⟩ | hnl
    · refine a_callV [_] hX c_X1_at mi_X1_at mv_X1_at se_X1_at (klt (K4_f (show kd 2 = 4 by first | rfl | assumption) hj66) (by decide)) (adr_lt (kd_lt (K4_f (show kd 2 = 4 by first | rfl | assumption) hj66) (by decide))) (cell_1 (K4_f (show kd 2 = 4 by first | rfl | assumption) hj66)) rfl li_X7_131 (by decide) rfl rfl (Nat.le_of_ble_eq_true rfl) (fun q => q) dX7_back_23 ⟨_, _, rfl, K4_f rfl hj66, Or.inl ⟨i, hi, rfl, ?_⟩⟩
      refine a_astore (ls' := [_, _, _, _, _, _, _, _]) hX dX7_back_26 (Nat.le_of_ble_eq_true rfl) rfl ?_
      refine a_aload hX dX7_back_28 rfl ?_
      refine a_ifnonnull 35 hX dX7_back_30 (by decide) ?_
      refine a_aload hX dX7_back_35 rfl ?_
      have hip := isP_nI ho.1.2.1 hj6
      have hil := isL_nI hi
      have hF := hC.1.fl hj66
      have hpl : ∀ k, k < 9 → pl (RSn g) (nI j6) (nI i) k = w.1 (2 + 1 + 1 + 17 * j6 + 1 + 4 + i) k := fun k hk => by
        unfold pl
        rw [ix_nI (by omega), ix_nI (by omega), hC.1.pl hj66 hi hk]
      have hp0 := hpl 0 (by decide)
      have hp5 := hpl 5 (by decide)
      have hix : ix (nI i) = i := ix_nI (by omega)
      have hjx : ix (nI j6) = j6 := ix_nI (by omega)
      refine a_callV [] hX c_X2_mayHaveRule mi_X2_mayHaveRule mv_X2_mayHaveRule se_X2_mayHaveRule (klt (K1_p (K4_f rfl hj66) hi) (by decide)) (adr_lt (kd_lt (K1_p (K4_f rfl hj66) hi) (by decide))) (cell_2 (K1_p (K4_f rfl hj66) hi)) rfl li_X7_128 (by decide) rfl rfl (Nat.le_of_ble_eq_true rfl) (fun q => q) dX7_back_37 ⟨_, rfl, (K1_p (K4_f rfl hj66) hi), ?_⟩
      refine a_if_ne_b 45 hX dX7_back_40 (by decide) (fun c_40 => ?_) (fun c_40 => ?_)
      · have hru : ruld (RSn g) (nI j6) (nI i) := by unfold ruld; rw [hp0, hp5]; exact c_40
        have hsB : stB ((RSn g).1 j6) i = true := by
          unfold stB
          rw [decide_eq_true_eq, ← hF.1 i hi 0 (by decide), ← hF.1 i hi 5 (by decide)]
          exact c_40.1
        refine a_aload_n hX dX7_back_45 rfl ?_
        refine gf_X7_41 rfl hX dX7_back_46 ?_
        refine a_aload hX dX7_back_49 rfl ?_
        refine a_iconst (0) hX dX7_back_51 (by decide) ?_
        refine a_callV [_, _] hX c_X3_reckon mi_X3_reckon mv_X3_reckon se_X3_reckon (klt rfl (by decide)) (adr_lt (kd_lt rfl (by decide))) (cell_3 rfl) rfl li_X7_135 (by decide) rfl rfl (Nat.le_of_ble_eq_true rfl) (fun q => q) dX7_back_52 ⟨_, _, rfl, (K4_f rfl hj66), (hF.pre ho.n hj66).1, (hF.pre ho.n hj66).2.1, (hF.pre ho.n hj66).2.2, ?_⟩
        intro w52 be en hf52 hs52 hr52 hb52 _
        have hk := RkT.mk2 (K4_f rfl hj66) hF ho.n hj66 hf52 hs52 hr52 hb52
        have hC52 := hC.fr hf52 (fun z hz => by omega)
        have hm52 : FrM w w52 := hf52.M (fun z hz => by omega)
        refine a_aload_n hX dX7_back_55 rfl ?_
        refine gf_X7_41 rfl hX dX7_back_56 ?_
        refine a_aload hX dX7_back_59 rfl ?_
        refine a_iload_n hX dX7_back_61 rfl ?_
        refine a_aload_n hX dX7_back_62 rfl ?_
        refine gf_X7_22 rfl hX dX7_back_63 ?_
        rw [hC52.1.1.2.2.1]
        refine a_callV [_, _, _] hX c_X3_takenUpTo mi_X3_takenUpTo mv_X3_takenUpTo se_X3_takenUpTo (klt rfl (by decide)) (adr_lt (kd_lt rfl (by decide))) (cell_3 rfl) rfl li_X7_139 (by decide) rfl rfl (Nat.le_of_ble_eq_true rfl) (fun q => q) dX7_back_66 ⟨_, _, _, _, _, _, rfl, hk.1, hi, (vP_ag hk.2.1.ag.symm (ho.n.1 j6 hj66).1), (by rw [stB_ag hk.2.1.ag hi]; exact hsB), hk.2.2.1, ho.1.2.2, ?_⟩
        intro w66 hf66
        rw [hk.tk ho.n hj66 hi hsB ho.1.2.2]
        have hC66 := hC52.fr hf66 (fun z hz => by omega)
        have hm66 : FrM w w66 := hm52.tr (hf66.M (fun z hz => by omega))
        obtain ⟨-, -, -, -, -, -, -, -, ⟨gv, hgv, egv⟩, -⟩ := (ho.n.1 j6 hj66).1 i hi
        have hG66 : w66.1 (2 + 1 + 1 + 17 * j6 + 1 + 4 + i) 8 = nI gv := by rw [hC66.1.pl hj66 hi (by decide)]; exact egv
        have htk := tkS_le (mst := 0) (d := gt g) ho.n hj66 hi
        have hsub : (nI (tkS (RSn g) j6 0 i (gt g)) - nI gv).toInt = (tkS (RSn g) j6 0 i (gt g) : Int) - gv := by
          rw [i_sub (by rw [nI_toInt (by omega), nI_toInt (by omega)]; omega) (by rw [nI_toInt (by omega), nI_toInt (by omega)]; omega), nI_toInt (by omega), nI_toInt (by omega)]
        have hneg : (-nI gv).toInt = -(gv : Int) := by
          rw [i_neg (by rw [nI_toInt (by omega)]; omega), nI_toInt (by omega)]
        have hcond : ((pl (RSn g) (nI j6) (nI i) 8).toInt + d.toInt < 0 ∨ (0 < d.toInt ∧ (tkS (RSn g) (ix (nI j6)) 0 (ix (nI i)) (gt g) : Int) < (pl (RSn g) (nI j6) (nI i) 8).toInt + d.toInt)) ↔ ((gv : Int) + d.toInt < 0 ∨ (0 < d.toInt ∧ (tkS (RSn g) j6 0 i (gt g) : Int) < gv + d.toInt)) := by
          unfold pl
          rw [hix, hjx, egv, nI_toInt (by omega)]
        have hd0 : (0 : Int32).toInt = 0 := rfl
        have hlo := i_lo d
        have hhi := i_hi d
        refine a_aload hX dX7_back_69 rfl ?_
        refine gf_X7_143 (K1_p (K4_f rfl hj66) hi) hX dX7_back_71 ?_
        rw [hG66]
        refine a_isub hX dX7_back_74 ?_
        refine a_istore (ls' := [_, _, _, _, _, _, _, _]) hX dX7_back_75 (Nat.le_of_ble_eq_true rfl) rfl ?_
        refine a_iload_n hX dX7_back_77 rfl ?_
        refine a_aload hX dX7_back_78 rfl ?_
        refine gf_X7_143 (K1_p (K4_f rfl hj66) hi) hX dX7_back_80 ?_
        rw [hG66]
        refine a_ineg hX dX7_back_83 ?_
        refine a_icmp_lt 97 hX dX7_back_84 (by decide) (fun c_84 => ?_) (fun c_84 => ?_)
        · refine a_iconst (3) hX dX7_back_97 (by decide) ?_
          refine a_iret hX hR dX7_back_98 ⟨Nat.le_of_ble_eq_true rfl, Nat.le_of_ble_eq_true rfl⟩ rfl ?_
          have hbad : (gv : Int) + d.toInt < 0 ∨ (0 < d.toInt ∧ (tkS (RSn g) j6 0 i (gt g) : Int) < gv + d.toInt) := by
            first
            | (rw [Int32.lt_iff_toInt_lt, hneg] at c_84
               left; omega)
            | (rw [Int32.le_iff_toInt_le] at c_88
               rw [Int32.le_iff_toInt_le, hsub] at c_94
               right; omega)
          exact fin_o h (by unfold backS; rw [if_neg (not_not_intro ⟨hip, hil⟩), if_neg (not_not_intro hru), if_pos (hcond.mpr hbad)]) hC66 hm66
        · refine a_iload_n hX dX7_back_87 rfl ?_
          refine a_if_le 99 hX dX7_back_88 (by decide) (fun c_88 => ?_) (fun c_88 => ?_)
          · have hgood : ¬ ((gv : Int) + d.toInt < 0 ∨ (0 < d.toInt ∧ (tkS (RSn g) j6 0 i (gt g) : Int) < gv + d.toInt)) := by
              rw [Int32.lt_iff_toInt_lt, hneg] at c_84
              first
              | (rw [Int32.le_iff_toInt_le] at c_88
                 rw [Int32.le_iff_toInt_le, hsub] at c_94
                 omega)
              | (rw [Int32.le_iff_toInt_le] at c_88
                 omega)
            have hpg : (pl (RSn g) (nI j6) (nI i) 8).toInt = gv := by
              unfold pl
              rw [hix, hjx, egv, nI_toInt (by omega)]
            refine a_new hX hZ.2.2 (by have h8 := hC66.1.2.1; have h9 := hC66.1.2.2.1; omega) cl_X7_9 (by have h9 := hZ.1; omega) dX7_back_99 (fun w99 hn99 => ?_)
            have hlt : w66.2.2.1 < w99.2.2.1 := by rw [hn99.2.1]; omega
            refine a_dup hX dX7_back_102 rfl ?_
            refine a_aload_n hX dX7_back_103 rfl ?_
            refine gf_X7_22 rfl hX dX7_back_104 ?_
            refine a_bipush (10) hX dX7_back_107 (by decide) ?_
            refine a_iload_n hX dX7_back_109 rfl ?_
            refine a_iload_n hX dX7_back_110 rfl ?_
            rw [show w99.1 0 3 = nI (gt g) from by rw [hn99.2.2.1 0 (by omega)]; exact hC66.1.1.2.2.1]
            refine a_callI [_, _, _, _] hX c_X0_init mi_X0_init mv_X0_init rfl li_X7_60 (by decide) rfl rfl (Nat.le_of_ble_eq_true rfl) (fun q => q) dX7_back_111 ⟨_, _, _, _, _, rfl, hlt, ?_⟩
            intro w111 h111
            have e111 : w99.2.2.2 = w111.2.2.2 := by rw [h111.1.1]
            have hgn := hC66.1.2.2.1
            have hp := Pd.init hC66.1 hn99 h111.1 h111.2
            replace hlt : w66.2.2.1 < w111.2.2.1 := by rw [h111.1.1]; exact hlt
            rw [e111]
            refine a_astore (ls' := [_, _, _, _, _, _, _, _]) hX dX7_back_114 (Nat.le_of_ble_eq_true rfl) rfl ?_
            refine a_aload hX dX7_back_116 rfl ?_
            refine a_iload_n hX dX7_back_118 rfl ?_
            refine pf_X7_70 hlt hX dX7_back_119 ?_
            refine a_aload_n hX dX7_back_122 rfl ?_
            refine a_aload hX dX7_back_123 rfl ?_
            refine a_callV [_] hX c_X7_tell mi_X7_tell mv_X7_tell se_X7_tell (klt rfl (by decide)) (adr_lt (kd_lt rfl (by decide))) (cell_7 rfl) rfl li_X7_63 (by decide) rfl rfl (Nat.le_of_ble_eq_true rfl) (fun q => q) dX7_back_125 ⟨g, w66, en9 (nI (gt g)) 10 (nI j6) (nI i) d 0 0 0 0, rfl, hC66, ((hp).p4 hgn), ho, fun h4 => ok_back ho h4 hip hil (by rw [hpg]; omega) (by rw [hpg]; omega), ?_⟩
            intro wT hcT hmT
            refine a_iret hX hR dX7_back_128 ⟨Nat.le_of_ble_eq_true rfl, Nat.le_of_ble_eq_true rfl⟩ rfl ?_
            exact fin_t h (by unfold backS; rw [if_neg (not_not_intro ⟨hip, hil⟩), if_neg (not_not_intro hru), if_neg (fun z => hgood (hcond.mp z))]) hcT (hm66.tr hmT)
          · refine a_iload_n hX dX7_back_91 rfl ?_
            refine a_iload hX dX7_back_92 rfl ?_
            refine a_icmp_le 99 hX dX7_back_94 (by decide) (fun c_94 => ?_) (fun c_94 => ?_)
            · have hgood : ¬ ((gv : Int) + d.toInt < 0 ∨ (0 < d.toInt ∧ (tkS (RSn g) j6 0 i (gt g) : Int) < gv + d.toInt)) := by
                rw [Int32.lt_iff_toInt_lt, hneg] at c_84
                first
                | (rw [Int32.le_iff_toInt_le] at c_88
                   rw [Int32.le_iff_toInt_le, hsub] at c_94
                   omega)
                | (rw [Int32.le_iff_toInt_le] at c_88
                   omega)
              have hpg : (pl (RSn g) (nI j6) (nI i) 8).toInt = gv := by
                unfold pl
                rw [hix, hjx, egv, nI_toInt (by omega)]
              refine a_new hX hZ.2.2 (by have h8 := hC66.1.2.1; have h9 := hC66.1.2.2.1; omega) cl_X7_9 (by have h9 := hZ.1; omega) dX7_back_99 (fun w99 hn99 => ?_)
              have hlt : w66.2.2.1 < w99.2.2.1 := by rw [hn99.2.1]; omega
              refine a_dup hX dX7_back_102 rfl ?_
              refine a_aload_n hX dX7_back_103 rfl ?_
              refine gf_X7_22 rfl hX dX7_back_104 ?_
              refine a_bipush (10) hX dX7_back_107 (by decide) ?_
              refine a_iload_n hX dX7_back_109 rfl ?_
              refine a_iload_n hX dX7_back_110 rfl ?_
              rw [show w99.1 0 3 = nI (gt g) from by rw [hn99.2.2.1 0 (by omega)]; exact hC66.1.1.2.2.1]
              refine a_callI [_, _, _, _] hX c_X0_init mi_X0_init mv_X0_init rfl li_X7_60 (by decide) rfl rfl (Nat.le_of_ble_eq_true rfl) (fun q => q) dX7_back_111 ⟨_, _, _, _, _, rfl, hlt, ?_⟩
              intro w111 h111
              have e111 : w99.2.2.2 = w111.2.2.2 := by rw [h111.1.1]
              have hgn := hC66.1.2.2.1
              have hp := Pd.init hC66.1 hn99 h111.1 h111.2
              replace hlt : w66.2.2.1 < w111.2.2.1 := by rw [h111.1.1]; exact hlt
              rw [e111]
              refine a_astore (ls' := [_, _, _, _, _, _, _, _]) hX dX7_back_114 (Nat.le_of_ble_eq_true rfl) rfl ?_
              refine a_aload hX dX7_back_116 rfl ?_
              refine a_iload_n hX dX7_back_118 rfl ?_
              refine pf_X7_70 hlt hX dX7_back_119 ?_
              refine a_aload_n hX dX7_back_122 rfl ?_
              refine a_aload hX dX7_back_123 rfl ?_
              refine a_callV [_] hX c_X7_tell mi_X7_tell mv_X7_tell se_X7_tell (klt rfl (by decide)) (adr_lt (kd_lt rfl (by decide))) (cell_7 rfl) rfl li_X7_63 (by decide) rfl rfl (Nat.le_of_ble_eq_true rfl) (fun q => q) dX7_back_125 ⟨g, w66, en9 (nI (gt g)) 10 (nI j6) (nI i) d 0 0 0 0, rfl, hC66, ((hp).p4 hgn), ho, fun h4 => ok_back ho h4 hip hil (by rw [hpg]; omega) (by rw [hpg]; omega), ?_⟩
              intro wT hcT hmT
              refine a_iret hX hR dX7_back_128 ⟨Nat.le_of_ble_eq_true rfl, Nat.le_of_ble_eq_true rfl⟩ rfl ?_
              exact fin_t h (by unfold backS; rw [if_neg (not_not_intro ⟨hip, hil⟩), if_neg (not_not_intro hru), if_neg (fun z => hgood (hcond.mp z))]) hcT (hm66.tr hmT)
            · refine a_iconst (3) hX dX7_back_97 (by decide) ?_
              refine a_iret hX hR dX7_back_98 ⟨Nat.le_of_ble_eq_true rfl, Nat.le_of_ble_eq_true rfl⟩ rfl ?_
              have hbad : (gv : Int) + d.toInt < 0 ∨ (0 < d.toInt ∧ (tkS (RSn g) j6 0 i (gt g) : Int) < gv + d.toInt) := by
                first
                | (rw [Int32.lt_iff_toInt_lt, hneg] at c_84
                   left; omega)
                | (rw [Int32.le_iff_toInt_le] at c_88
                   rw [Int32.le_iff_toInt_le, hsub] at c_94
                   right; omega)
              exact fin_o h (by unfold backS; rw [if_neg (not_not_intro ⟨hip, hil⟩), if_neg (not_not_intro hru), if_pos (hcond.mpr hbad)]) hC66 hm66
      · refine a_iconst (5) hX dX7_back_43 (by decide) ?_
        refine a_iret hX hR dX7_back_44 ⟨Nat.le_of_ble_eq_true rfl, Nat.le_of_ble_eq_true rfl⟩ rfl ?_
        exact fin_o h (by unfold backS; rw [if_neg (not_not_intro ⟨hip, hil⟩), if_pos (by unfold ruld; rw [hp0, hp5]; exact c_40)]) hC FrM.rf
    · refine a_callV [_] hX c_X1_at mi_X1_at mv_X1_at se_X1_at (klt (K4_f (show kd 2 = 4 by first | rfl | assumption) hj66) (by decide)) (adr_lt (kd_lt (K4_f (show kd 2 = 4 by first | rfl | assumption) hj66) (by decide))) (cell_1 (K4_f (show kd 2 = 4 by first | rfl | assumption) hj66)) rfl li_X7_131 (by decide) rfl rfl (Nat.le_of_ble_eq_true rfl) (fun q => q) dX7_back_23 ⟨_, _, rfl, K4_f rfl hj66, Or.inr ⟨hnl, ?_⟩⟩
      refine a_astoreN (ls' := [_, _, _, _, _, _, _, _]) hX dX7_back_26 (Nat.le_of_ble_eq_true rfl) rfl ?_
      refine a_aloadN hX dX7_back_28 rfl ?_
      refine a_ifnonnullN hX dX7_back_30 ?_
      refine a_iconst (1) hX dX7_back_33 (by decide) ?_
      refine a_iret hX hR dX7_back_34 ⟨Nat.le_of_ble_eq_true rfl, Nat.le_of_ble_eq_true rfl⟩ rfl ?_
      first | exact fin_o h (show backS g _ l d = _ by unfold backS; rw [if_pos (fun z => hnl z.2)]) hC FrM.rf | exact fin_o h (show backS g p l d = _ by unfold backS; rw [if_pos (fun z => hn6 z.1)]) hC FrM.rf
  · refine a_astoreN (ls' := [_, _, _, _, _, _, _, _]) hX dX7_back_9 (Nat.le_of_ble_eq_true rfl) rfl ?_
    refine a_aloadN hX dX7_back_11 rfl ?_
    refine a_ifnonnullN hX dX7_back_13 ?_
    refine a_null hX dX7_back_16 ?_
    refine a_goto 26 hX dX7_back_17 (by decide) ?_
    refine a_astoreN (ls' := [_, _, _, _, _, _, _, _]) hX dX7_back_26 (Nat.le_of_ble_eq_true rfl) rfl ?_
    refine a_aloadN hX dX7_back_28 rfl ?_
    refine a_ifnonnullN hX dX7_back_30 ?_
    refine a_iconst (1) hX dX7_back_33 (by decide) ?_
    refine a_iret hX hR dX7_back_34 ⟨Nat.le_of_ble_eq_true rfl, Nat.le_of_ble_eq_true rfl⟩ rfl ?_
    first | exact fin_o h (show backS g _ l d = _ by unfold backS; rw [if_pos (fun z => hnl z.2)]) hC FrM.rf | exact fin_o h (show backS g p l d = _ by unfold backS; rw [if_pos (fun z => hn6 z.1)]) hC FrM.rf
abbrev T_X7_grant : Tr := fun lay av w Po => ∃ (g : Sg) (p d : Int32), av = [.ref (lay 0), .int p, .int d] ∧ (CI g w) ∧ (okS g) ∧ ∀ w' : St, CI (grantS g p d).2 w' → FrM w w' → Po (some (.int (grantS g p d).1)) w'
set_option maxRecDepth 100000 in
set_option maxHeartbeats 4000000 in
theorem c_X7_grant : Ct yX7_grant cX7_grant 4 (some .int) 6 1 9 T_X7_grant := by
  refine Ct.mk2 (by decide +kernel) ?_
  intro X av w Po hX hR hZ hT
  obtain ⟨g, p, d, rfl, hC, ho, h⟩ := hT
  refine ⟨rfl, ?_⟩
  show A X 0 0 0 [some (.ref (xlay X 0)), some (.int p), some (.int d), none] [] w
  refine a_aload_n hX dX7_grant_0 rfl ?_
  refine a_aload_n hX dX7_grant_1 rfl ?_
  refine gf_X7_31 rfl hX dX7_grant_2 ?_
  refine a_iload_n hX dX7_grant_5 rfl ?_
  refine a_callV [_, _] hX c_X7_fileOf mi_X7_fileOf mv_X7_fileOf se_X7_fileOf (klt rfl (by decide)) (adr_lt (kd_lt rfl (by decide))) (cell_7 rfl) rfl li_X7_112 (by decide) rfl rfl (Nat.le_of_ble_eq_true rfl) (fun q => q) dX7_grant_6 ⟨2, (gp g), _, rfl, rfl, hC.1.1.2.1, ho.1.2.1, ?_⟩
  refine ⟨fun j6 hj6 hj66 e6 => ?_, fun hn6 => ?_⟩
  · subst e6
    refine a_astore_n (ls' := [_, _, _, _]) hX dX7_grant_9 (Nat.le_of_ble_eq_true rfl) rfl ?_
    refine a_aload_n hX dX7_grant_10 rfl ?_
    refine a_ifnonnull 16 hX dX7_grant_11 (by decide) ?_
    refine a_iload_n hX dX7_grant_16 rfl ?_
    refine a_callS [_] hX c_X7_isDay mi_X7_isDay ms_X7_isDay li_X7_52 (by decide) rfl rfl (Nat.le_of_ble_eq_true rfl) (fun q => q) dX7_grant_17 ⟨_, rfl, ?_⟩
    refine a_if_ne_b 25 hX dX7_grant_20 (by decide) (fun c_20 => ?_) (fun c_20 => ?_)
    · have hip := isP_nI ho.1.2.1 hj6
      have hF := hC.1.fl hj66
      obtain ⟨x, hx, rfl⟩ := isD_ex c_20
      have hn4 := ho.1.1
      have hlt4 : ∀ x : Int32, (x = 400) → (nI (gn g) < x ↔ gn g < 400) := fun x hx => by
        subst hx
        exact nI_ltI (b := 400) (by omega) (by decide)
      refine a_aload_n hX dX7_grant_25 rfl ?_
      refine gf_X7_15 rfl hX dX7_grant_26 ?_
      rw [hC.1.1.1]
      refine a_sipush (400) hX dX7_grant_29 (by decide) ?_
      refine a_icmp_lt 38 hX dX7_grant_32 (by decide) (fun c_32 => ?_) (fun c_32 => ?_)
      · have hg4 : ¬ gn g = 400 := by have := (hlt4 400 rfl).mp c_32; omega
        have hjx : ix (nI j6) = j6 := ix_nI (by omega)
        have hxx : ix (nI x) = x := ix_nI (by omega)
        refine a_aload_n hX dX7_grant_38 rfl ?_
        refine gf_X7_41 rfl hX dX7_grant_39 ?_
        refine a_aload_n hX dX7_grant_42 rfl ?_
        refine a_iconst (0) hX dX7_grant_43 (by decide) ?_
        refine a_callV [_, _] hX c_X3_reckon mi_X3_reckon mv_X3_reckon se_X3_reckon (klt rfl (by decide)) (adr_lt (kd_lt rfl (by decide))) (cell_3 rfl) rfl li_X7_135 (by decide) rfl rfl (Nat.le_of_ble_eq_true rfl) (fun q => q) dX7_grant_44 ⟨_, _, rfl, (K4_f rfl hj66), (hF.pre ho.n hj66).1, (hF.pre ho.n hj66).2.1, (hF.pre ho.n hj66).2.2, ?_⟩
        intro w44 be en hf44 hs44 hr44 hb44 _
        have hk := RkT.mk2 (K4_f rfl hj66) hF ho.n hj66 hf44 hs44 hr44 hb44
        have hC44 := hC.fr hf44 (fun z hz => by omega)
        have hm44 : FrM w w44 := hf44.M (fun z hz => by omega)
        refine a_iload_n hX dX7_grant_47 rfl ?_
        refine a_aload_n hX dX7_grant_48 rfl ?_
        refine gf_X7_41 rfl hX dX7_grant_49 ?_
        refine a_aload_n hX dX7_grant_52 rfl ?_
        refine a_sipush (500) hX dX7_grant_53 (by decide) ?_
        refine a_callV [_, _] hX c_X3_watchedDay mi_X3_watchedDay mv_X3_watchedDay se_X3_watchedDay (klt rfl (by decide)) (adr_lt (kd_lt rfl (by decide))) (cell_3 rfl) rfl li_X7_146 (by decide) rfl rfl (Nat.le_of_ble_eq_true rfl) (fun q => q) dX7_grant_56 ⟨_, 500, _, _, _, rfl, hk.1, vP_ag hk.2.1.ag.symm (ho.n.1 j6 hj66).1, by decide, hk.2.2.1, hk.2.2.2.1, ?_⟩
        intro dc56 hd56
        rw [hk.wa ho.n hj66 hd56]
        have hwl := hk.wle (t := 500) ho.n hj66
        refine a_icmp_ge 65 hX dX7_grant_59 (by decide) (fun c_59 => ?_) (fun c_59 => ?_)
        · have hge : ¬ x < waD (RSn g) j6 0 500 := fun q => absurd (nI_lt q (by omega)) (Int32.not_lt.mpr c_59)
          refine a_aload_n hX dX7_grant_65 rfl ?_
          refine a_new hX hZ.2.2 (by have h8 := hC44.1.2.1; have h9 := hC44.1.2.2.1; omega) cl_X7_9 (by have h9 := hZ.1; omega) dX7_grant_66 (fun w66 hn66 => ?_)
          have hlt : w44.2.2.1 < w66.2.2.1 := by rw [hn66.2.1]; omega
          refine a_dup hX dX7_grant_69 rfl ?_
          refine a_aload_n hX dX7_grant_70 rfl ?_
          refine gf_X7_22 rfl hX dX7_grant_71 ?_
          refine a_bipush (11) hX dX7_grant_74 (by decide) ?_
          refine a_iload_n hX dX7_grant_76 rfl ?_
          refine a_iload_n hX dX7_grant_77 rfl ?_
          rw [show w66.1 0 3 = nI (gt g) from by rw [hn66.2.2.1 0 (by omega)]; exact hC44.1.1.2.2.1]
          refine a_callI [_, _, _, _] hX c_X0_init mi_X0_init mv_X0_init rfl li_X7_60 (by decide) rfl rfl (Nat.le_of_ble_eq_true rfl) (fun q => q) dX7_grant_78 ⟨_, _, _, _, _, rfl, hlt, ?_⟩
          intro w78 h78
          have e78 : w66.2.2.2 = w78.2.2.2 := by rw [h78.1.1]
          have hgn := hC44.1.2.2.1
          have hp := Pd.init hC44.1 hn66 h78.1 h78.2
          replace hlt : w44.2.2.1 < w78.2.2.1 := by rw [h78.1.1]; exact hlt
          rw [e78]
          refine a_callV [_] hX c_X7_tell mi_X7_tell mv_X7_tell se_X7_tell (klt rfl (by decide)) (adr_lt (kd_lt rfl (by decide))) (cell_7 rfl) rfl li_X7_63 (by decide) rfl rfl (Nat.le_of_ble_eq_true rfl) (fun q => q) dX7_grant_81 ⟨g, w44, en9 (nI (gt g)) 11 (nI j6) (nI x) 0 0 0 0 0, rfl, hC44, hp, ho, fun h4 => ok_grant ho h4 hip c_20, ?_⟩
          intro wT hcT hmT
          refine a_iret hX hR dX7_grant_84 ⟨Nat.le_of_ble_eq_true rfl, Nat.le_of_ble_eq_true rfl⟩ rfl ?_
          exact fin_t h (by unfold grantS; rw [if_neg (not_not_intro hip), if_neg (not_not_intro c_20), if_neg hg4, if_neg (by rw [hjx, hxx]; exact hge)]) hcT (hm44.tr hmT)
        · refine a_bipush (8) hX dX7_grant_62 (by decide) ?_
          refine a_iret hX hR dX7_grant_64 ⟨Nat.le_of_ble_eq_true rfl, Nat.le_of_ble_eq_true rfl⟩ rfl ?_
          have hlt : x < waD (RSn g) j6 0 500 := by
            rcases Nat.lt_or_ge x (waD (RSn g) j6 0 500) with q | q
            · exact q
            · exact absurd (nI_le q (by omega)) c_59
          exact fin_o h (by unfold grantS; rw [if_neg (not_not_intro hip), if_neg (not_not_intro c_20), if_neg hg4, if_pos (by rw [hjx, hxx]; exact hlt)]) hC44 hm44
      · refine a_bipush (7) hX dX7_grant_35 (by decide) ?_
        refine a_iret hX hR dX7_grant_37 ⟨Nat.le_of_ble_eq_true rfl, Nat.le_of_ble_eq_true rfl⟩ rfl ?_
        exact fin_o h (by unfold grantS; rw [if_neg (not_not_intro hip), if_neg (not_not_intro c_20), if_pos (by have := (not_congr (hlt4 400 rfl)).mp c_32; omega)]) hC FrM.rf
    · refine a_iconst (3) hX dX7_grant_23 (by decide) ?_
      refine a_iret hX hR dX7_grant_24 ⟨Nat.le_of_ble_eq_true rfl, Nat.le_of_ble_eq_true rfl⟩ rfl ?_
      exact fin_o h (by unfold grantS; rw [if_neg (not_not_intro (isP_nI ho.1.2.1 hj6)), if_pos c_20]) hC FrM.rf
  · refine a_astore_nN (ls' := [_, _, _, _]) hX dX7_grant_9 (Nat.le_of_ble_eq_true rfl) rfl ?_
    refine a_aload_nN hX dX7_grant_10 rfl ?_
    refine a_ifnonnullN hX dX7_grant_11 ?_
    refine a_iconst (1) hX dX7_grant_14 (by decide) ?_
    refine a_iret hX hR dX7_grant_15 ⟨Nat.le_of_ble_eq_true rfl, Nat.le_of_ble_eq_true rfl⟩ rfl ?_
    exact fin_o h (by unfold grantS; rw [if_pos hn6]) hC FrM.rf
abbrev T_X7_recall : Tr := fun lay av w Po => ∃ (g : Sg) (p l d t : Int32), av = [.ref (lay 0), .int p, .int l, .int d, .int t] ∧ (CI g w) ∧ (okS g) ∧ ∀ w' : St, CI (recallS g p l d t).2 w' → FrM w w' → Po (some (.int (recallS g p l d t).1)) w'
set_option maxRecDepth 100000 in
set_option maxHeartbeats 4000000 in
theorem c_X7_recall : Ct yX7_recall cX7_recall 9 (some .int) 6 1 9 T_X7_recall := by
  refine Ct.mk2 (by decide +kernel) ?_
  intro X av w Po hX hR hZ hT
  obtain ⟨g, p, l, d, t, rfl, hC, ho, h⟩ := hT
  refine ⟨rfl, ?_⟩
  show A X 0 0 0 [some (.ref (xlay X 0)), some (.int p), some (.int l), some (.int d), some (.int t), none, none, none, none] [] w
  refine a_aload_n hX dX7_recall_0 rfl ?_
  refine a_aload_n hX dX7_recall_1 rfl ?_
  refine gf_X7_31 rfl hX dX7_recall_2 ?_
  refine a_iload_n hX dX7_recall_5 rfl ?_
  refine a_callV [_, _] hX c_X7_fileOf mi_X7_fileOf mv_X7_fileOf se_X7_fileOf (klt rfl (by decide)) (adr_lt (kd_lt rfl (by decide))) (cell_7 rfl) rfl li_X7_112 (by decide) rfl rfl (Nat.le_of_ble_eq_true rfl) (fun q => q) dX7_recall_6 ⟨2, (gp g), _, rfl, rfl, hC.1.1.2.1, ho.1.2.1, ?_⟩
  refine ⟨fun j6 hj6 hj66 e6 => ?_, fun hn6 => ?_⟩
  · subst e6
    refine a_astore (ls' := [_, _, _, _, _, _, _, _, _]) hX dX7_recall_9 (Nat.le_of_ble_eq_true rfl) rfl ?_
    refine a_aload_n hX dX7_recall_11 rfl ?_
    refine a_iload_n hX dX7_recall_12 rfl ?_
    refine a_iload_n hX dX7_recall_13 rfl ?_
    refine a_callV [_, _] hX c_X7_putStatus mi_X7_putStatus mv_X7_putStatus se_X7_putStatus (klt rfl (by decide)) (adr_lt (kd_lt rfl (by decide))) (cell_7 rfl) rfl li_X7_56 (by decide) rfl rfl (Nat.le_of_ble_eq_true rfl) (fun q => q) dX7_recall_14 ⟨_, _, _, rfl, hC.1, ho, ?_⟩
    refine a_istore (ls' := [_, _, _, _, _, _, _, _, _]) hX dX7_recall_17 (Nat.le_of_ble_eq_true rfl) rfl ?_
    refine a_aload hX dX7_recall_19 rfl ?_
    refine a_ifnull hX dX7_recall_21 ?_
    refine a_iload hX dX7_recall_24 rfl ?_
    refine a_if_eq 32 hX dX7_recall_26 (by decide) (fun c_26 => ?_) (fun c_26 => ?_)
    · refine a_iload_n hX dX7_recall_32 rfl ?_
      refine a_callS [_] hX c_X7_isDay mi_X7_isDay ms_X7_isDay li_X7_52 (by decide) rfl rfl (Nat.le_of_ble_eq_true rfl) (fun q => q) dX7_recall_33 ⟨_, rfl, ?_⟩
      refine a_if_eq_b 53 hX dX7_recall_36 (by decide) (fun c_36 => ?_) (fun c_36 => ?_)
      · refine a_iconst (3) hX dX7_recall_53 (by decide) ?_
        refine a_iret hX hR dX7_recall_54 ⟨Nat.le_of_ble_eq_true rfl, Nat.le_of_ble_eq_true rfl⟩ rfl ?_
        exact fin_o h (by unfold recallS; rw [if_neg (not_not_intro c_26), if_pos (by grind)]) hC FrM.rf
      · refine a_iload hX dX7_recall_39 rfl ?_
        refine a_iconst (1) hX dX7_recall_41 (by decide) ?_
        refine a_icmp_lt 53 hX dX7_recall_42 (by decide) (fun c_42 => ?_) (fun c_42 => ?_)
        · refine a_iconst (3) hX dX7_recall_53 (by decide) ?_
          refine a_iret hX hR dX7_recall_54 ⟨Nat.le_of_ble_eq_true rfl, Nat.le_of_ble_eq_true rfl⟩ rfl ?_
          exact fin_o h (by unfold recallS; rw [if_neg (not_not_intro c_26), if_pos (by grind)]) hC FrM.rf
        · refine a_iload hX dX7_recall_45 rfl ?_
          refine a_sipush (1000) hX dX7_recall_47 (by decide) ?_
          refine a_icmp_le 55 hX dX7_recall_50 (by decide) (fun c_50 => ?_) (fun c_50 => ?_)
          · have htt : 1 ≤ t ∧ t ≤ 1000 := ⟨by grind, by grind⟩
            have hdt : isD d ∧ 1 ≤ t ∧ t ≤ 1000 := ⟨c_36, htt⟩
            have hF := hC.1.fl hj66
            have hn4 := ho.1.1
            have hlt4 : ∀ x : Int32, (x = 400) → (nI (gn g) < x ↔ gn g < 400) := fun x hx => by
              subst hx
              exact nI_ltI (b := 400) (by omega) (by decide)
            refine a_aload_n hX dX7_recall_55 rfl ?_
            refine gf_X7_15 rfl hX dX7_recall_56 ?_
            rw [hC.1.1.1]
            refine a_sipush (400) hX dX7_recall_59 (by decide) ?_
            refine a_icmp_lt 68 hX dX7_recall_62 (by decide) (fun c_62 => ?_) (fun c_62 => ?_)
            · have hg4 : ¬ gn g = 400 := by have := (hlt4 400 rfl).mp c_62; omega
              have hjx : ix (nI j6) = j6 := ix_nI (by omega)
              refine a_aload_n hX dX7_recall_68 rfl ?_
              refine gf_X7_41 rfl hX dX7_recall_69 ?_
              refine a_aload hX dX7_recall_72 rfl ?_
              refine a_iconst (0) hX dX7_recall_74 (by decide) ?_
              refine a_callV [_, _] hX c_X3_reckon mi_X3_reckon mv_X3_reckon se_X3_reckon (klt rfl (by decide)) (adr_lt (kd_lt rfl (by decide))) (cell_3 rfl) rfl li_X7_135 (by decide) rfl rfl (Nat.le_of_ble_eq_true rfl) (fun q => q) dX7_recall_75 ⟨_, _, rfl, (K4_f rfl hj66), (hF.pre ho.n hj66).1, (hF.pre ho.n hj66).2.1, (hF.pre ho.n hj66).2.2, ?_⟩
              intro w75 be en hf75 hs75 hr75 hb75 _
              have hk := RkT.mk2 (K4_f rfl hj66) hF ho.n hj66 hf75 hs75 hr75 hb75
              have hC75 := hC.fr hf75 (fun z hz => by omega)
              have hm75 : FrM w w75 := hf75.M (fun z hz => by omega)
              refine a_aload_n hX dX7_recall_78 rfl ?_
              refine gf_X7_41 rfl hX dX7_recall_79 ?_
              refine a_callV [] hX c_X3_fullDay mi_X3_fullDay mv_X3_fullDay se_X3_fullDay (klt rfl (by decide)) (adr_lt (kd_lt rfl (by decide))) (cell_3 rfl) rfl li_X7_150 (by decide) rfl rfl (Nat.le_of_ble_eq_true rfl) (fun q => q) dX7_recall_82 ⟨_, _, _, _, rfl, hk.2.2.1, hk.2.2.2.1, ?_⟩
              rw [hk.fu ho.n hj66]
              have hfb := fuD_b (RSn g) j6 0
              have hfd : (if fuN (RSn g) j6 0 ≤ 3600 then fuN (RSn g) j6 0 else 100000) = fuD (RSn g) j6 0 := rfl
              rw [hfd]
              have hgr : w75.1 (2 + 1 + 1 + 17 * j6) 4 = (RSn g).2.2.2 j6 := hk.2.1.2.2
              have hg9 := (ho.n.1 j6 hj66).2.2.1
              have hcut : ∀ Q : Prop, Q → Q := fun _ q => q
              refine a_istore (ls' := [_, _, _, _, _, _, _, _, _]) hX dX7_recall_85 (Nat.le_of_ble_eq_true rfl) rfl ?_
              refine a_aload hX dX7_recall_87 rfl ?_
              refine gf_X7_154 (K4_f (show kd 2 = 4 by first | rfl | assumption) hj66) hX dX7_recall_89 ?_
              rw [hgr]
              refine a_iconst (-1) hX dX7_recall_92 (by decide) ?_
              refine a_icmp_eq 122 hX dX7_recall_93 (by decide) (fun c_93 => ?_) (fun c_93 => ?_)
              · refine a_bipush (8) hX dX7_recall_122 (by decide) ?_
                refine a_iret hX hR dX7_recall_124 ⟨Nat.le_of_ble_eq_true rfl, Nat.le_of_ble_eq_true rfl⟩ rfl ?_
                have hbad : (RSn g).2.2.2 (ix (nI j6)) = -1 ∨ d ≤ (RSn g).2.2.2 (ix (nI j6)) ∨ fuD (RSn g) (ix (nI j6)) 0 = 100000 ∨ fuD (RSn g) (ix (nI j6)) 0 ≤ ix ((RSn g).2.2.2 (ix (nI j6))) := by
                  rw [hjx]
                  rcases hg9 with e9 | ⟨gd, hgd, e9⟩
                  · exact Or.inl e9
                  · right
                    first
                    | exact absurd (c_93.symm.trans e9) (fun z => nI_nm1 (by omega) z.symm)
                    | exact Or.inl c_102
                    | (right; left
                       exact (nI_eq (b := 100000) (by omega) (by decide)).mp c_109)
                    | (right; right
                       rw [e9, ix_nI (by omega)]
                       rw [e9] at c_119
                       first
                       | exact (nI_leI (by omega) (by omega)).mp c_119
                       | exact (nI_leI (by omega) (by omega)).mp (Int32.not_lt.mp c_119))
                exact fin_o h (by unfold recallS; rw [if_neg (not_not_intro c_26), if_neg (not_not_intro hdt), if_neg hg4, if_pos hbad]) hC75 hm75
              · refine a_iload_n hX dX7_recall_96 rfl ?_
                refine a_aload hX dX7_recall_97 rfl ?_
                refine gf_X7_154 (K4_f (show kd 2 = 4 by first | rfl | assumption) hj66) hX dX7_recall_99 ?_
                rw [hgr]
                refine a_icmp_le 122 hX dX7_recall_102 (by decide) (fun c_102 => ?_) (fun c_102 => ?_)
                · refine a_bipush (8) hX dX7_recall_122 (by decide) ?_
                  refine a_iret hX hR dX7_recall_124 ⟨Nat.le_of_ble_eq_true rfl, Nat.le_of_ble_eq_true rfl⟩ rfl ?_
                  have hbad : (RSn g).2.2.2 (ix (nI j6)) = -1 ∨ d ≤ (RSn g).2.2.2 (ix (nI j6)) ∨ fuD (RSn g) (ix (nI j6)) 0 = 100000 ∨ fuD (RSn g) (ix (nI j6)) 0 ≤ ix ((RSn g).2.2.2 (ix (nI j6))) := by
                    rw [hjx]
                    rcases hg9 with e9 | ⟨gd, hgd, e9⟩
                    · exact Or.inl e9
                    · right
                      first
                      | exact absurd (c_93.symm.trans e9) (fun z => nI_nm1 (by omega) z.symm)
                      | exact Or.inl c_102
                      | (right; left
                         exact (nI_eq (b := 100000) (by omega) (by decide)).mp c_109)
                      | (right; right
                         rw [e9, ix_nI (by omega)]
                         rw [e9] at c_119
                         first
                         | exact (nI_leI (by omega) (by omega)).mp c_119
                         | exact (nI_leI (by omega) (by omega)).mp (Int32.not_lt.mp c_119))
                  exact fin_o h (by unfold recallS; rw [if_neg (not_not_intro c_26), if_neg (not_not_intro hdt), if_neg hg4, if_pos hbad]) hC75 hm75
                · refine a_iload hX dX7_recall_105 rfl ?_
                  refine a_ldc hX dX7_recall_107 co_X7_157 ?_
                  refine a_icmp_eq 122 hX dX7_recall_109 (by decide) (fun c_109 => ?_) (fun c_109 => ?_)
                  · refine a_bipush (8) hX dX7_recall_122 (by decide) ?_
                    refine a_iret hX hR dX7_recall_124 ⟨Nat.le_of_ble_eq_true rfl, Nat.le_of_ble_eq_true rfl⟩ rfl ?_
                    have hbad : (RSn g).2.2.2 (ix (nI j6)) = -1 ∨ d ≤ (RSn g).2.2.2 (ix (nI j6)) ∨ fuD (RSn g) (ix (nI j6)) 0 = 100000 ∨ fuD (RSn g) (ix (nI j6)) 0 ≤ ix ((RSn g).2.2.2 (ix (nI j6))) := by
                      rw [hjx]
                      rcases hg9 with e9 | ⟨gd, hgd, e9⟩
                      · exact Or.inl e9
                      · right
                        first
                        | exact absurd (c_93.symm.trans e9) (fun z => nI_nm1 (by omega) z.symm)
                        | exact Or.inl c_102
                        | (right; left
                           exact (nI_eq (b := 100000) (by omega) (by decide)).mp c_109)
                        | (right; right
                           rw [e9, ix_nI (by omega)]
                           rw [e9] at c_119
                           first
                           | exact (nI_leI (by omega) (by omega)).mp c_119
                           | exact (nI_leI (by omega) (by omega)).mp (Int32.not_lt.mp c_119))
                    exact fin_o h (by unfold recallS; rw [if_neg (not_not_intro c_26), if_neg (not_not_intro hdt), if_neg hg4, if_pos hbad]) hC75 hm75
                  · refine a_iload hX dX7_recall_112 rfl ?_
                    refine a_aload hX dX7_recall_114 rfl ?_
                    refine gf_X7_154 (K4_f (show kd 2 = 4 by first | rfl | assumption) hj66) hX dX7_recall_116 ?_
                    rw [hgr]
                    refine a_icmp_gt 125 hX dX7_recall_119 (by decide) (fun c_119 => ?_) (fun c_119 => ?_)
                    · obtain ⟨gd, hgd, e9⟩ : ∃ d, d < 3600 ∧ (RSn g).2.2.2 j6 = nI d := by
                        rcases hg9 with e9 | e9
                        · exact absurd e9 c_93
                        · exact e9
                      have hF1 : fuD (RSn g) j6 0 ≠ 100000 := fun z => c_109 (by rw [z]; rfl)
                      have hF2 : gd < fuD (RSn g) j6 0 := by
                        rw [e9] at c_119
                        rcases Nat.lt_or_ge gd (fuD (RSn g) j6 0) with q | q
                        · exact q
                        · first
                          | exact absurd (nI_le q (by omega)) c_119
                          | exact absurd c_119 (Int32.not_lt.mpr (nI_le q (by omega)))
                      obtain ⟨tt, ht1, ht2⟩ : ∃ tt, tt ≤ 1000 ∧ t = nI tt := le_ex (n := 1000) (by decide) ⟨Int32.le_trans (by decide) htt.1, htt.2⟩
                      have hned := rc_need hF2 (by omega) ht1
                      have hrc : rcNd g (nI j6) t = max 1 (((fuD (RSn g) j6 0 - gd) * tt + 999) / 1000) := by
                        unfold rcNd
                        rw [hjx, e9, ix_nI (by omega), ht2, ix_nI (by omega)]
                      rw [← ht2, ← hrc] at hned
                      have hrb : 1 ≤ rcNd g (nI j6) t ∧ rcNd g (nI j6) t ≤ 3600 := by
                        have hm : (fuD (RSn g) j6 0 - gd) * tt ≤ 3600 * 1000 := Nat.mul_le_mul (by omega) ht1
                        rw [hrc]
                        omega
                      have hgood : ¬ ((RSn g).2.2.2 (ix (nI j6)) = -1 ∨ d ≤ (RSn g).2.2.2 (ix (nI j6)) ∨ fuD (RSn g) (ix (nI j6)) 0 = 100000 ∨ fuD (RSn g) (ix (nI j6)) 0 ≤ ix ((RSn g).2.2.2 (ix (nI j6)))) := by
                        rw [hjx]
                        rintro (z | z | z | z)
                        · exact c_93 z
                        · first | exact c_102 z | exact absurd z (Int32.not_le.mpr c_102)
                        · exact hF1 z
                        · rw [e9, ix_nI (by omega)] at z
                          omega
                      refine a_new hX hZ.2.2 (by have h8 := hC75.1.2.1; have h9 := hC75.1.2.2.1; omega) cl_X7_9 (by have h9 := hZ.1; omega) dX7_recall_125 (fun w125 hn125 => ?_)
                      have hlt : w75.2.2.1 < w125.2.2.1 := by rw [hn125.2.1]; omega
                      refine a_dup hX dX7_recall_128 rfl ?_
                      refine a_aload_n hX dX7_recall_129 rfl ?_
                      refine gf_X7_22 rfl hX dX7_recall_130 ?_
                      refine a_bipush (12) hX dX7_recall_133 (by decide) ?_
                      refine a_iload_n hX dX7_recall_135 rfl ?_
                      refine a_iload_n hX dX7_recall_136 rfl ?_
                      rw [show w125.1 0 3 = nI (gt g) from by rw [hn125.2.2.1 0 (by omega)]; exact hC75.1.1.2.2.1]
                      refine a_callI [_, _, _, _] hX c_X0_init mi_X0_init mv_X0_init rfl li_X7_60 (by decide) rfl rfl (Nat.le_of_ble_eq_true rfl) (fun q => q) dX7_recall_137 ⟨_, _, _, _, _, rfl, hlt, ?_⟩
                      intro w137 h137
                      have e137 : w125.2.2.2 = w137.2.2.2 := by rw [h137.1.1]
                      have hgn := hC75.1.2.2.1
                      have hp := Pd.init hC75.1 hn125 h137.1 h137.2
                      replace hlt : w75.2.2.1 < w137.2.2.1 := by rw [h137.1.1]; exact hlt
                      rw [e137]
                      refine a_astore (ls' := [_, _, _, _, _, _, _, _, _]) hX dX7_recall_140 (Nat.le_of_ble_eq_true rfl) rfl ?_
                      refine a_aload hX dX7_recall_142 rfl ?_
                      refine a_iload_n hX dX7_recall_144 rfl ?_
                      refine pf_X7_70 hlt hX dX7_recall_145 ?_
                      refine a_aload hX dX7_recall_148 rfl ?_
                      refine a_iload hX dX7_recall_150 rfl ?_
                      refine pf_X7_73 hlt hX dX7_recall_152 ?_
                      refine a_aload hX dX7_recall_155 rfl ?_
                      refine a_iconst (1) hX dX7_recall_157 (by decide) ?_
                      refine a_iload hX dX7_recall_158 rfl ?_
                      refine a_aload hX dX7_recall_160 rfl ?_
                      refine gf_X7_154 (K4_f (show kd 2 = 4 by first | rfl | assumption) hj66) hX dX7_recall_162 ?_
                      have hgw : (wset (wset w137 (248 + w75.2.2.1) 4 d) (248 + w75.2.2.1) 5 t).1 (2 + 1 + 1 + 17 * j6) 4 = nI gd := by
                        rw [wset_ne _ _ _ _ (by omega), wset_ne _ _ _ _ (by omega), h137.1.2 _ (by omega), hn125.2.2.1 _ (by omega), hgr, e9]
                      rw [hgw]
                      refine a_isub hX dX7_recall_165 ?_
                      refine a_iload hX dX7_recall_166 rfl ?_
                      refine a_callS [_, _] hX c_X7_part mi_X7_part ms_X7_part li_X7_158 (by decide) rfl rfl (Nat.le_of_ble_eq_true rfl) (fun q => q) dX7_recall_168 ⟨_, _, rfl, ?_⟩
                      refine a_mmax hX (by decide) rfl (Nat.le_of_ble_eq_true rfl) dX7_recall_171 li_X7_161 ?_
                      rw [hned]
                      refine pf_X7_166 hlt hX dX7_recall_174 ?_
                      refine a_aload_n hX dX7_recall_177 rfl ?_
                      refine a_aload hX dX7_recall_178 rfl ?_
                      refine a_callV [_] hX c_X7_tell mi_X7_tell mv_X7_tell se_X7_tell (klt rfl (by decide)) (adr_lt (kd_lt rfl (by decide))) (cell_7 rfl) rfl li_X7_63 (by decide) rfl rfl (Nat.le_of_ble_eq_true rfl) (fun q => q) dX7_recall_180 ⟨g, w75, en9 (nI (gt g)) 12 (nI j6) l d t 0 0 (nI (rcNd g (nI j6) t)), rfl, hC75, ((((((hp).p4 hgn)).p5 hgn)).p8 hgn), ho, fun h4 => ok_term ho h4 c_26 c_36 (n := nI (rcNd g (nI j6) t)) ⟨nI_le (a := 1) hrb.1 (by omega), nI_le (b := 3600) hrb.2 (by decide)⟩ (Or.inr ⟨rfl, rfl⟩), ?_⟩
                      intro wT hcT hmT
                      refine a_iret hX hR dX7_recall_183 ⟨Nat.le_of_ble_eq_true rfl, Nat.le_of_ble_eq_true rfl⟩ rfl ?_
                      exact fin_t h (by unfold recallS; rw [if_neg (not_not_intro c_26), if_neg (not_not_intro hdt), if_neg hg4, if_neg hgood]) hcT (hm75.tr hmT)
                    · refine a_bipush (8) hX dX7_recall_122 (by decide) ?_
                      refine a_iret hX hR dX7_recall_124 ⟨Nat.le_of_ble_eq_true rfl, Nat.le_of_ble_eq_true rfl⟩ rfl ?_
                      have hbad : (RSn g).2.2.2 (ix (nI j6)) = -1 ∨ d ≤ (RSn g).2.2.2 (ix (nI j6)) ∨ fuD (RSn g) (ix (nI j6)) 0 = 100000 ∨ fuD (RSn g) (ix (nI j6)) 0 ≤ ix ((RSn g).2.2.2 (ix (nI j6))) := by
                        rw [hjx]
                        rcases hg9 with e9 | ⟨gd, hgd, e9⟩
                        · exact Or.inl e9
                        · right
                          first
                          | exact absurd (c_93.symm.trans e9) (fun z => nI_nm1 (by omega) z.symm)
                          | exact Or.inl c_102
                          | (right; left
                             exact (nI_eq (b := 100000) (by omega) (by decide)).mp c_109)
                          | (right; right
                             rw [e9, ix_nI (by omega)]
                             rw [e9] at c_119
                             first
                             | exact (nI_leI (by omega) (by omega)).mp c_119
                             | exact (nI_leI (by omega) (by omega)).mp (Int32.not_lt.mp c_119))
                      exact fin_o h (by unfold recallS; rw [if_neg (not_not_intro c_26), if_neg (not_not_intro hdt), if_neg hg4, if_pos hbad]) hC75 hm75
            · refine a_bipush (7) hX dX7_recall_65 (by decide) ?_
              refine a_iret hX hR dX7_recall_67 ⟨Nat.le_of_ble_eq_true rfl, Nat.le_of_ble_eq_true rfl⟩ rfl ?_
              exact fin_o h (by unfold recallS; rw [if_neg (not_not_intro c_26), if_neg (not_not_intro hdt), if_pos (by have := (not_congr (hlt4 400 rfl)).mp c_62; omega)]) hC FrM.rf
          · refine a_iconst (3) hX dX7_recall_53 (by decide) ?_
            refine a_iret hX hR dX7_recall_54 ⟨Nat.le_of_ble_eq_true rfl, Nat.le_of_ble_eq_true rfl⟩ rfl ?_
            exact fin_o h (by unfold recallS; rw [if_neg (not_not_intro c_26), if_pos (by grind)]) hC FrM.rf
    · refine a_iload hX dX7_recall_29 rfl ?_
      refine a_iret hX hR dX7_recall_31 ⟨Nat.le_of_ble_eq_true rfl, Nat.le_of_ble_eq_true rfl⟩ rfl ?_
      first | exact fin_o h (by unfold recallS; rw [if_pos c_26]) hC FrM.rf | exact fin_o h (by unfold recallS; rw [if_pos (by rw [room_out (fun z => hn6 z.1)]; decide)]) hC FrM.rf
  · refine a_astoreN (ls' := [_, _, _, _, _, _, _, _, _]) hX dX7_recall_9 (Nat.le_of_ble_eq_true rfl) rfl ?_
    refine a_aload_n hX dX7_recall_11 rfl ?_
    refine a_iload_n hX dX7_recall_12 rfl ?_
    refine a_iload_n hX dX7_recall_13 rfl ?_
    refine a_callV [_, _] hX c_X7_putStatus mi_X7_putStatus mv_X7_putStatus se_X7_putStatus (klt rfl (by decide)) (adr_lt (kd_lt rfl (by decide))) (cell_7 rfl) rfl li_X7_56 (by decide) rfl rfl (Nat.le_of_ble_eq_true rfl) (fun q => q) dX7_recall_14 ⟨_, _, _, rfl, hC.1, ho, ?_⟩
    refine a_istore (ls' := [_, _, _, _, _, _, _, _, _]) hX dX7_recall_17 (Nat.le_of_ble_eq_true rfl) rfl ?_
    refine a_aloadN hX dX7_recall_19 rfl ?_
    refine a_ifnullN 29 hX dX7_recall_21 (by decide) ?_
    refine a_iload hX dX7_recall_29 rfl ?_
    refine a_iret hX hR dX7_recall_31 ⟨Nat.le_of_ble_eq_true rfl, Nat.le_of_ble_eq_true rfl⟩ rfl ?_
    first | exact fin_o h (by unfold recallS; rw [if_pos c_26]) hC FrM.rf | exact fin_o h (by unfold recallS; rw [if_pos (by rw [room_out (fun z => hn6 z.1)]; decide)]) hC FrM.rf
theorem CI.put {g : Sg} {w : St} {p t : Nat} {a : Int32} {j : Nat} {v : Int32} (h : CI g w) (h2 : upd (w.1 0) j v 2 = nI p) (h3 : upd (w.1 0) j v 3 = nI t) (h4 : upd (w.1 0) j v 4 = a) (h1 : j ≠ 1) : CI (gL g, gn g, p, t, a, gr g, gq g) (wset w 0 j v) := by
  obtain ⟨⟨⟨a1, a2, a3, a4⟩, b, c, d, e, ⟨m, f1, f2, f3⟩, i, k⟩, n⟩ := h
  have hf : Fr w (wset w 0 j v) (fun z => z = 0) := Fr.set Fr.rf rfl
  refine ⟨⟨⟨?_, by rw [wset_row]; exact h2, by rw [wset_row]; exact h3, by rw [wset_row]; exact h4⟩, b, c, fun x hx y hy => by rw [hf.2 _ (by omega)]; exact d x hx y hy, ⟨e.1.fr hf (fun z h1 h2 h3 => by omega), by rw [hf.2 2 (by omega)]; exact e.2⟩, ⟨m, f1, by rw [hf.2 106 (by omega)]; exact f2, f3.fr hf (fun z h1 h2 h3 => by omega)⟩, by rw [hf.2 217 (by omega)]; exact i, by rw [hf.2 218 (by omega)]; exact k⟩, n⟩
  rw [wset_row]
  show upd (w.1 0) j v 1 = nI (gn g)
  unfold upd
  rw [if_neg (by omega)]
  exact a1
theorem fin_c {g' : Sg} {w0 w : St} {v : Int32} {F : Int32 × Sg} {Po : Option Value → St → Prop} (h : ∀ w' : St, CI F.2 w' → FrM w0 w' → Po (some (.int F.1)) w') (e : F = (v, g')) (hC : CI g' w) (hm : FrM w0 w) : Po (some (.int v)) w := by
  have h9 := h w (by rw [e]; exact hC) hm
  rw [e] at h9
  exact h9
abbrev T_X7_person : Tr := fun lay av w Po => ∃ (g : Sg), av = [.ref (lay 0)] ∧ (CI g w) ∧ (okS g) ∧ ∀ w' : St, CI (personS g ).2 w' → FrM w w' → Po (some (.int (personS g ).1)) w'
set_option maxRecDepth 100000 in
set_option maxHeartbeats 4000000 in
theorem c_X7_person : Ct yX7_person cX7_person 1 (some .int) 0 0 0 T_X7_person := by
  refine Ct.mk (by decide +kernel) ?_
  intro X av w Po hX hR hT
  obtain ⟨g, rfl, hC, ho, h⟩ := hT
  refine ⟨rfl, ?_⟩
  show A X 0 0 0 [some (.ref (xlay X 0))] [] w
  refine a_aload_n hX dX7_person_0 rfl ?_
  refine gf_X7_19 rfl hX dX7_person_1 ?_
  rw [hC.1.1.2.1]
  have h6 := ho.1.2.1
  have hcc : (nI (gp g) < 6 ↔ gp g < 6) := nI_ltI (b := 6) (by omega) (by decide)
  refine a_bipush (6) hX dX7_person_4 (by decide) ?_
  refine a_icmp_lt 11 hX dX7_person_6 (by decide) (fun c_6 => ?_) (fun c_6 => ?_)
  · refine a_aload_n hX dX7_person_11 rfl ?_
    refine a_dup hX dX7_person_12 rfl ?_
    refine gf_X7_19 rfl hX dX7_person_13 ?_
    refine a_iconst (1) hX dX7_person_16 (by decide) ?_
    refine a_iadd hX dX7_person_17 ?_
    rw [hC.1.1.2.1, nI_1]
    refine pf_X7_19 rfl hX dX7_person_18 ?_
    refine a_aload_n hX dX7_person_21 rfl ?_
    refine gf_X7_19 rfl hX dX7_person_22 ?_
    rw [wset_1, if_pos ⟨rfl, rfl⟩]
    refine a_iconst (1) hX dX7_person_25 (by decide) ?_
    refine a_isub hX dX7_person_26 ?_
    rw [nI_s1]
    refine a_iret hX hR dX7_person_27 ⟨Nat.le_refl _, Nat.le_refl _⟩ rfl ?_
    exact fin_c h (by unfold personS; rw [if_neg (by have := hcc.mp c_6; omega)]) (hC.put (j := 2) (v := nI (gp g + 1)) rfl hC.1.1.2.2.1 hC.1.1.2.2.2 (by decide)) ((Fr.set Fr.rf rfl : Fr w _ (fun z => z = 0)).M (fun z hz => by omega))
  · refine a_iconst (-1) hX dX7_person_9 (by decide) ?_
    refine a_iret hX hR dX7_person_10 ⟨Nat.le_refl _, Nat.le_refl _⟩ rfl ?_
    exact fin_o h (by unfold personS; rw [if_pos (by have := (not_congr hcc).mp c_6; omega)]) hC FrM.rf
abbrev T_X7_today : Tr := fun lay av w Po => ∃ (g : Sg) (d : Int32), av = [.ref (lay 0), .int d] ∧ (CI g w) ∧ (okS g) ∧ ∀ w' : St, CI (todayS g d).2 w' → FrM w w' → Po (some (.int (todayS g d).1)) w'
set_option maxRecDepth 100000 in
set_option maxHeartbeats 4000000 in
theorem c_X7_today : Ct yX7_today cX7_today 2 (some .boolean) 1 0 0 T_X7_today := by
  refine Ct.mk (by decide +kernel) ?_
  intro X av w Po hX hR hT
  obtain ⟨g, d, rfl, hC, ho, h⟩ := hT
  refine ⟨rfl, ?_⟩
  show A X 0 0 0 [some (.ref (xlay X 0)), some (.int d)] [] w
  refine a_iload_n hX dX7_today_0 rfl ?_
  refine a_callS [_] hX c_X7_isDay mi_X7_isDay ms_X7_isDay li_X7_52 (by decide) rfl rfl (Nat.le_of_ble_eq_true rfl) (fun q => q) dX7_today_1 ⟨_, rfl, ?_⟩
  refine a_if_eq_b 15 hX dX7_today_4 (by decide) (fun c_4 => ?_) (fun c_4 => ?_)
  · refine a_iconst (0) hX dX7_today_15 (by decide) ?_
    refine a_iret hX hR dX7_today_16 ⟨Nat.le_refl _, Nat.le_refl _⟩ rfl ?_
    exact fin_o h (by unfold todayS; rw [if_neg (by grind)]) hC FrM.rf
  · refine a_iload_n hX dX7_today_7 rfl ?_
    refine a_aload_n hX dX7_today_8 rfl ?_
    refine gf_X7_22 rfl hX dX7_today_9 ?_
    rw [hC.1.1.2.2.1]
    refine a_icmp_ge 17 hX dX7_today_12 (by decide) (fun c_12 => ?_) (fun c_12 => ?_)
    · obtain ⟨x, hx, rfl⟩ := isD_ex c_4
      refine a_aload_n hX dX7_today_17 rfl ?_
      refine a_iload_n hX dX7_today_18 rfl ?_
      refine pf_X7_22 rfl hX dX7_today_19 ?_
      refine a_iconst (1) hX dX7_today_22 (by decide) ?_
      refine a_iret hX hR dX7_today_23 ⟨Nat.le_refl _, Nat.le_refl _⟩ rfl ?_
      exact fin_c h (by unfold todayS; rw [if_pos ⟨c_4, c_12⟩]) (hC.put (j := 3) (v := nI x) hC.1.1.2.1 (show nI x = nI (ix (nI x)) by rw [ix_nI (by omega)]) hC.1.1.2.2.2 (by decide)) ((Fr.set Fr.rf rfl : Fr w _ (fun z => z = 0)).M (fun z hz => by omega))
    · refine a_iconst (0) hX dX7_today_15 (by decide) ?_
      refine a_iret hX hR dX7_today_16 ⟨Nat.le_refl _, Nat.le_refl _⟩ rfl ?_
      exact fin_o h (by unfold todayS; rw [if_neg (by grind)]) hC FrM.rf
abbrev T_X7_as : Tr := fun lay av w Po => ∃ (g : Sg) (d : Int32), av = [.ref (lay 0), .int d] ∧ (CI g w) ∧ (okS g) ∧ ∀ w' : St, CI (asS g d).2 w' → FrM w w' → Po (some (.int (asS g d).1)) w'
set_option maxRecDepth 100000 in
set_option maxHeartbeats 4000000 in
theorem c_X7_as : Ct yX7_as cX7_as 2 (some .int) 1 0 0 T_X7_as := by
  refine Ct.mk (by decide +kernel) ?_
  intro X av w Po hX hR hT
  obtain ⟨g, d, rfl, hC, ho, h⟩ := hT
  refine ⟨rfl, ?_⟩
  show A X 0 0 0 [some (.ref (xlay X 0)), some (.int d)] [] w
  refine a_iload_n hX dX7_as_0 rfl ?_
  refine a_iconst (-1) hX dX7_as_1 (by decide) ?_
  refine a_icmp_eq 22 hX dX7_as_2 (by decide) (fun c_2 => ?_) (fun c_2 => ?_)
  · refine a_aload_n hX dX7_as_22 rfl ?_
    refine a_iload_n hX dX7_as_23 rfl ?_
    refine pf_X7_25 rfl hX dX7_as_24 ?_
    refine a_iconst (1) hX dX7_as_27 (by decide) ?_
    refine a_iret hX hR dX7_as_28 ⟨Nat.le_refl _, Nat.le_refl _⟩ rfl ?_
    exact fin_c h (by unfold asS; rw [if_pos (by grind)]) (hC.put (a := d) (j := 4) (v := d) hC.1.1.2.1 hC.1.1.2.2.1 rfl (by decide)) ((Fr.set Fr.rf rfl : Fr w _ (fun z => z = 0)).M (fun z hz => by omega))
  · refine a_iload_n hX dX7_as_5 rfl ?_
    refine a_callS [_] hX c_X7_isDay mi_X7_isDay ms_X7_isDay li_X7_52 (by decide) rfl rfl (Nat.le_of_ble_eq_true rfl) (fun q => q) dX7_as_6 ⟨_, rfl, ?_⟩
    refine a_if_eq_b 20 hX dX7_as_9 (by decide) (fun c_9 => ?_) (fun c_9 => ?_)
    · refine a_iconst (-1) hX dX7_as_20 (by decide) ?_
      refine a_iret hX hR dX7_as_21 ⟨Nat.le_refl _, Nat.le_refl _⟩ rfl ?_
      exact fin_o h (by unfold asS; rw [if_neg (by grind)]) hC FrM.rf
    · refine a_iload_n hX dX7_as_12 rfl ?_
      refine a_aload_n hX dX7_as_13 rfl ?_
      refine gf_X7_22 rfl hX dX7_as_14 ?_
      rw [hC.1.1.2.2.1]
      refine a_icmp_le 22 hX dX7_as_17 (by decide) (fun c_17 => ?_) (fun c_17 => ?_)
      · refine a_aload_n hX dX7_as_22 rfl ?_
        refine a_iload_n hX dX7_as_23 rfl ?_
        refine pf_X7_25 rfl hX dX7_as_24 ?_
        refine a_iconst (1) hX dX7_as_27 (by decide) ?_
        refine a_iret hX hR dX7_as_28 ⟨Nat.le_refl _, Nat.le_refl _⟩ rfl ?_
        exact fin_c h (by unfold asS; rw [if_pos (by grind)]) (hC.put (a := d) (j := 4) (v := d) hC.1.1.2.1 hC.1.1.2.2.1 rfl (by decide)) ((Fr.set Fr.rf rfl : Fr w _ (fun z => z = 0)).M (fun z hz => by omega))
      · refine a_iconst (-1) hX dX7_as_20 (by decide) ?_
        refine a_iret hX hR dX7_as_21 ⟨Nat.le_refl _, Nat.le_refl _⟩ rfl ?_
        exact fin_o h (by unfold asS; rw [if_neg (by grind)]) hC FrM.rf
