/-! the class: what is told -/
theorem fin_o {g : Sg} {w0 w : St} {v : Int32} {F : Int32 × Sg} {Po : Option Value → St → Prop} (h : ∀ w' : St, CI F.2 w' → FrM w0 w' → Po (some (.int F.1)) w') (e : F = (v, g)) (hC : CI g w) (hm : FrM w0 w) : Po (some (.int v)) w := by
  have h9 := h w (by rw [e]; exact hC) hm
  rw [e] at h9
  exact h9
theorem fin_t {g : Sg} {w0 w : St} {en : Nat → Int32} {F : Int32 × Sg} {Po : Option Value → St → Prop} (h : ∀ w' : St, CI F.2 w' → FrM w0 w' → Po (some (.int F.1)) w') (e : F = coS g en) (hC : CI (coS g en).2 w) (hm : FrM w0 w) : Po (some (.int (coS g en).1)) w := by
  have h9 := h w (by rw [e]; exact hC) hm
  rw [e] at h9
  exact h9
abbrev T_X7_letter : Tr := fun lay av w Po => ∃ (g : Sg) (p l : Int32), av = [.ref (lay 0), .int p, .int l] ∧ (CI g w) ∧ (okS g) ∧ ∀ w' : St, CI (letterS g p l).2 w' → FrM w w' → Po (some (.int (letterS g p l).1)) w'
set_option maxRecDepth 100000 in
set_option maxHeartbeats 4000000 in
theorem c_X7_letter : Ct yX7_letter cX7_letter 4 (some .int) 6 1 9 T_X7_letter := by
  refine Ct.mk2 (by decide +kernel) ?_
  intro X av w Po hX hR hZ hT
  obtain ⟨g, p, l, rfl, hC, ho, h⟩ := hT
  refine ⟨rfl, ?_⟩
  show A X 0 0 0 [some (.ref (xlay X 0)), some (.int p), some (.int l), none] [] w
  refine a_aload_n hX dX7_letter_0 rfl ?_
  refine a_iload_n hX dX7_letter_1 rfl ?_
  refine a_iload_n hX dX7_letter_2 rfl ?_
  refine a_callV [_, _] hX c_X7_putStatus mi_X7_putStatus mv_X7_putStatus se_X7_putStatus (klt rfl (by decide)) (adr_lt (kd_lt rfl (by decide))) (cell_7 rfl) rfl li_X7_56 (by decide) rfl rfl (Nat.le_of_ble_eq_true rfl) (fun q => q) dX7_letter_3 ⟨_, _, _, rfl, hC.1, ho, ?_⟩
  refine a_istore_n (ls' := [_, _, _, _]) hX dX7_letter_6 (Nat.le_of_ble_eq_true rfl) rfl ?_
  refine a_iload_n hX dX7_letter_7 rfl ?_
  refine a_if_eq 13 hX dX7_letter_8 (by decide) (fun c_8 => ?_) (fun c_8 => ?_)
  · refine a_aload_n hX dX7_letter_13 rfl ?_
    refine a_new hX hZ.2.2 (by have h8 := hC.1.2.1; have h9 := hC.1.2.2.1; omega) cl_X7_9 (by have h9 := hZ.1; omega) dX7_letter_14 (fun w14 hn14 => ?_)
    have hlt : w.2.2.1 < w14.2.2.1 := by rw [hn14.2.1]; omega
    refine a_dup hX dX7_letter_17 rfl ?_
    refine a_aload_n hX dX7_letter_18 rfl ?_
    refine gf_X7_22 rfl hX dX7_letter_19 ?_
    refine a_iconst (0) hX dX7_letter_22 (by decide) ?_
    refine a_iload_n hX dX7_letter_23 rfl ?_
    refine a_iload_n hX dX7_letter_24 rfl ?_
    rw [show w14.1 0 3 = nI (gt g) from by rw [hn14.2.2.1 0 (by omega)]; exact hC.1.1.2.2.1]
    refine a_callI [_, _, _, _] hX c_X0_init mi_X0_init mv_X0_init rfl li_X7_60 (by decide) rfl rfl (Nat.le_of_ble_eq_true rfl) (fun q => q) dX7_letter_25 ⟨_, _, _, _, _, rfl, hlt, ?_⟩
    intro w25 h25
    have e25 : w14.2.2.2 = w25.2.2.2 := by rw [h25.1.1]
    have hgn := hC.1.2.2.1
    have hp := Pd.init hC.1 hn14 h25.1 h25.2
    replace hlt : w.2.2.1 < w25.2.2.1 := by rw [h25.1.1]; exact hlt
    rw [e25]
    refine a_callV [_] hX c_X7_tell mi_X7_tell mv_X7_tell se_X7_tell (klt rfl (by decide)) (adr_lt (kd_lt rfl (by decide))) (cell_7 rfl) rfl li_X7_63 (by decide) rfl rfl (Nat.le_of_ble_eq_true rfl) (fun q => q) dX7_letter_28 ⟨g, w, en9 (nI (gt g)) 0 p l 0 0 0 0 0, rfl, hC, hp, ho, fun h4 => ok_letter ho h4 c_8, ?_⟩
    intro wT hcT hmT
    refine a_iret hX hR dX7_letter_31 ⟨Nat.le_of_ble_eq_true rfl, Nat.le_of_ble_eq_true rfl⟩ rfl ?_
    exact fin_t h (by first | (simp [letterS, c_8]; done) | (unfold letterS; grind)) hcT (FrM.rf.tr hmT)
  · refine a_iload_n hX dX7_letter_11 rfl ?_
    refine a_iret hX hR dX7_letter_12 ⟨Nat.le_of_ble_eq_true rfl, Nat.le_of_ble_eq_true rfl⟩ rfl ?_
    exact fin_o h (by first | (simp [letterS, c_8]; done) | (unfold letterS; grind)) hC FrM.rf
abbrev T_X7_term : Tr := fun lay av w Po => ∃ (g : Sg) (p l f n : Int32), av = [.ref (lay 0), .int p, .int l, .int f, .int n] ∧ (CI g w) ∧ (okS g) ∧ ∀ w' : St, CI (termS g p l f n).2 w' → FrM w w' → Po (some (.int (termS g p l f n).1)) w'
set_option maxRecDepth 100000 in
set_option maxHeartbeats 4000000 in
theorem c_X7_term : Ct yX7_term cX7_term 7 (some .int) 6 1 9 T_X7_term := by
  refine Ct.mk2 (by decide +kernel) ?_
  intro X av w Po hX hR hZ hT
  obtain ⟨g, p, l, f, n, rfl, hC, ho, h⟩ := hT
  refine ⟨rfl, ?_⟩
  show A X 0 0 0 [some (.ref (xlay X 0)), some (.int p), some (.int l), some (.int f), some (.int n), none, none] [] w
  refine a_aload_n hX dX7_term_0 rfl ?_
  refine a_iload_n hX dX7_term_1 rfl ?_
  refine a_iload_n hX dX7_term_2 rfl ?_
  refine a_callV [_, _] hX c_X7_putStatus mi_X7_putStatus mv_X7_putStatus se_X7_putStatus (klt rfl (by decide)) (adr_lt (kd_lt rfl (by decide))) (cell_7 rfl) rfl li_X7_56 (by decide) rfl rfl (Nat.le_of_ble_eq_true rfl) (fun q => q) dX7_term_3 ⟨_, _, _, rfl, hC.1, ho, ?_⟩
  refine a_istore (ls' := [_, _, _, _, _, _, _]) hX dX7_term_6 (Nat.le_of_ble_eq_true rfl) rfl ?_
  refine a_iload hX dX7_term_8 rfl ?_
  refine a_if_eq 16 hX dX7_term_10 (by decide) (fun c_10 => ?_) (fun c_10 => ?_)
  · refine a_iload_n hX dX7_term_16 rfl ?_
    refine a_callS [_] hX c_X7_isDay mi_X7_isDay ms_X7_isDay li_X7_52 (by decide) rfl rfl (Nat.le_of_ble_eq_true rfl) (fun q => q) dX7_term_17 ⟨_, rfl, ?_⟩
    refine a_if_eq_b 31 hX dX7_term_20 (by decide) (fun c_20 => ?_) (fun c_20 => ?_)
    · refine a_iconst (3) hX dX7_term_31 (by decide) ?_
      refine a_iret hX hR dX7_term_32 ⟨Nat.le_of_ble_eq_true rfl, Nat.le_of_ble_eq_true rfl⟩ rfl ?_
      exact fin_o h (by unfold termS; grind) hC FrM.rf
    · refine a_iload hX dX7_term_23 rfl ?_
      refine a_callS [_] hX c_X7_isNeed mi_X7_isNeed ms_X7_isNeed li_X7_67 (by decide) rfl rfl (Nat.le_of_ble_eq_true rfl) (fun q => q) dX7_term_25 ⟨_, rfl, ?_⟩
      refine a_if_ne_b 33 hX dX7_term_28 (by decide) (fun c_28 => ?_) (fun c_28 => ?_)
      · refine a_new hX hZ.2.2 (by have h8 := hC.1.2.1; have h9 := hC.1.2.2.1; omega) cl_X7_9 (by have h9 := hZ.1; omega) dX7_term_33 (fun w33 hn33 => ?_)
        have hlt : w.2.2.1 < w33.2.2.1 := by rw [hn33.2.1]; omega
        refine a_dup hX dX7_term_36 rfl ?_
        refine a_aload_n hX dX7_term_37 rfl ?_
        refine gf_X7_22 rfl hX dX7_term_38 ?_
        refine a_iconst (1) hX dX7_term_41 (by decide) ?_
        refine a_iload_n hX dX7_term_42 rfl ?_
        refine a_iload_n hX dX7_term_43 rfl ?_
        rw [show w33.1 0 3 = nI (gt g) from by rw [hn33.2.2.1 0 (by omega)]; exact hC.1.1.2.2.1]
        refine a_callI [_, _, _, _] hX c_X0_init mi_X0_init mv_X0_init rfl li_X7_60 (by decide) rfl rfl (Nat.le_of_ble_eq_true rfl) (fun q => q) dX7_term_44 ⟨_, _, _, _, _, rfl, hlt, ?_⟩
        intro w44 h44
        have e44 : w33.2.2.2 = w44.2.2.2 := by rw [h44.1.1]
        have hgn := hC.1.2.2.1
        have hp := Pd.init hC.1 hn33 h44.1 h44.2
        replace hlt : w.2.2.1 < w44.2.2.1 := by rw [h44.1.1]; exact hlt
        rw [e44]
        refine a_astore (ls' := [_, _, _, _, _, _, _]) hX dX7_term_47 (Nat.le_of_ble_eq_true rfl) rfl ?_
        refine a_aload hX dX7_term_49 rfl ?_
        refine a_iload_n hX dX7_term_51 rfl ?_
        refine pf_X7_70 hlt hX dX7_term_52 ?_
        refine a_aload hX dX7_term_55 rfl ?_
        refine a_iload hX dX7_term_57 rfl ?_
        refine pf_X7_73 hlt hX dX7_term_59 ?_
        refine a_aload_n hX dX7_term_62 rfl ?_
        refine a_aload hX dX7_term_63 rfl ?_
        refine a_callV [_] hX c_X7_tell mi_X7_tell mv_X7_tell se_X7_tell (klt rfl (by decide)) (adr_lt (kd_lt rfl (by decide))) (cell_7 rfl) rfl li_X7_63 (by decide) rfl rfl (Nat.le_of_ble_eq_true rfl) (fun q => q) dX7_term_65 ⟨g, w, en9 (nI (gt g)) 1 p l f n 0 0 0, rfl, hC, ((((hp).p4 hgn)).p5 hgn), ho, fun h4 => ok_term ho h4 c_10 c_20 c_28 (Or.inl ⟨rfl, rfl⟩), ?_⟩
        intro wT hcT hmT
        refine a_iret hX hR dX7_term_68 ⟨Nat.le_of_ble_eq_true rfl, Nat.le_of_ble_eq_true rfl⟩ rfl ?_
        exact fin_t h (by unfold termS; grind) hcT (FrM.rf.tr hmT)
      · refine a_iconst (3) hX dX7_term_31 (by decide) ?_
        refine a_iret hX hR dX7_term_32 ⟨Nat.le_of_ble_eq_true rfl, Nat.le_of_ble_eq_true rfl⟩ rfl ?_
        exact fin_o h (by unfold termS; grind) hC FrM.rf
  · refine a_iload hX dX7_term_13 rfl ?_
    refine a_iret hX hR dX7_term_15 ⟨Nat.le_of_ble_eq_true rfl, Nat.le_of_ble_eq_true rfl⟩ rfl ?_
    exact fin_o h (by first | (simp [termS, c_10]; done) | (unfold termS; grind)) hC FrM.rf
abbrev T_X7_stay : Tr := fun lay av w Po => ∃ (g : Sg) (p l k f t s : Int32), av = [.ref (lay 0), .int p, .int l, .int k, .int f, .int t, .int s] ∧ (CI g w) ∧ (okS g) ∧ ∀ w' : St, CI (stayS g p l k f t s).2 w' → FrM w w' → Po (some (.int (stayS g p l k f t s).1)) w'
set_option maxRecDepth 100000 in
set_option maxHeartbeats 4000000 in
theorem c_X7_stay : Ct yX7_stay cX7_stay 10 (some .int) 6 1 9 T_X7_stay := by
  refine Ct.mk2 (by decide +kernel) ?_
  intro X av w Po hX hR hZ hT
  obtain ⟨g, p, l, k, f, t, s, rfl, hC, ho, h⟩ := hT
  refine ⟨rfl, ?_⟩
  show A X 0 0 0 [some (.ref (xlay X 0)), some (.int p), some (.int l), some (.int k), some (.int f), some (.int t), some (.int s), none, none, none] [] w
  refine a_aload_n hX dX7_stay_0 rfl ?_
  refine a_iload_n hX dX7_stay_1 rfl ?_
  refine a_iload_n hX dX7_stay_2 rfl ?_
  refine a_callV [_, _] hX c_X7_putStatus mi_X7_putStatus mv_X7_putStatus se_X7_putStatus (klt rfl (by decide)) (adr_lt (kd_lt rfl (by decide))) (cell_7 rfl) rfl li_X7_56 (by decide) rfl rfl (Nat.le_of_ble_eq_true rfl) (fun q => q) dX7_stay_3 ⟨_, _, _, rfl, hC.1, ho, ?_⟩
  refine a_istore (ls' := [_, _, _, _, _, _, _, _, _, _]) hX dX7_stay_6 (Nat.le_of_ble_eq_true rfl) rfl ?_
  refine a_iload hX dX7_stay_8 rfl ?_
  refine a_if_eq 16 hX dX7_stay_10 (by decide) (fun c_10 => ?_) (fun c_10 => ?_)
  · refine a_iload_n hX dX7_stay_16 rfl ?_
    refine a_bipush (6) hX dX7_stay_17 (by decide) ?_
    refine a_icmp_eq 28 hX dX7_stay_19 (by decide) (fun c_19 => ?_) (fun c_19 => ?_)
    · refine a_iconst (1) hX dX7_stay_28 (by decide) ?_
      refine a_goto 33 hX dX7_stay_29 (by decide) ?_
      refine a_istore (ls' := [_, _, _, _, _, _, _, _, _, _]) hX dX7_stay_33 (Nat.le_of_ble_eq_true rfl) rfl ?_
      refine a_iload hX dX7_stay_35 rfl ?_
      refine a_if_eq 71 hX dX7_stay_37 (by decide) (fun c_37 => ?_) (fun c_37 => ?_)
      · refine a_iconst (3) hX dX7_stay_71 (by decide) ?_
        refine a_iret hX hR dX7_stay_72 ⟨Nat.le_of_ble_eq_true rfl, Nat.le_of_ble_eq_true rfl⟩ rfl ?_
        exact fin_o h (by unfold stayS; grind) hC FrM.rf
      · refine a_iload hX dX7_stay_40 rfl ?_
        refine a_callS [_] hX c_X7_isDay mi_X7_isDay ms_X7_isDay li_X7_52 (by decide) rfl rfl (Nat.le_of_ble_eq_true rfl) (fun q => q) dX7_stay_42 ⟨_, rfl, ?_⟩
        refine a_if_eq_b 71 hX dX7_stay_45 (by decide) (fun c_45 => ?_) (fun c_45 => ?_)
        · refine a_iconst (3) hX dX7_stay_71 (by decide) ?_
          refine a_iret hX hR dX7_stay_72 ⟨Nat.le_of_ble_eq_true rfl, Nat.le_of_ble_eq_true rfl⟩ rfl ?_
          exact fin_o h (by unfold stayS; grind) hC FrM.rf
        · refine a_iload hX dX7_stay_48 rfl ?_
          refine a_callS [_] hX c_X7_isDay mi_X7_isDay ms_X7_isDay li_X7_52 (by decide) rfl rfl (Nat.le_of_ble_eq_true rfl) (fun q => q) dX7_stay_50 ⟨_, rfl, ?_⟩
          refine a_if_eq_b 71 hX dX7_stay_53 (by decide) (fun c_53 => ?_) (fun c_53 => ?_)
          · refine a_iconst (3) hX dX7_stay_71 (by decide) ?_
            refine a_iret hX hR dX7_stay_72 ⟨Nat.le_of_ble_eq_true rfl, Nat.le_of_ble_eq_true rfl⟩ rfl ?_
            exact fin_o h (by unfold stayS; grind) hC FrM.rf
          · refine a_iload hX dX7_stay_56 rfl ?_
            refine a_iload hX dX7_stay_58 rfl ?_
            refine a_icmp_lt 71 hX dX7_stay_60 (by decide) (fun c_60 => ?_) (fun c_60 => ?_)
            · refine a_iconst (3) hX dX7_stay_71 (by decide) ?_
              refine a_iret hX hR dX7_stay_72 ⟨Nat.le_of_ble_eq_true rfl, Nat.le_of_ble_eq_true rfl⟩ rfl ?_
              exact fin_o h (by unfold stayS; grind) hC FrM.rf
            · refine a_iload hX dX7_stay_63 rfl ?_
              refine a_callS [_] hX c_X7_isSet mi_X7_isSet ms_X7_isSet li_X7_76 (by decide) rfl rfl (Nat.le_of_ble_eq_true rfl) (fun q => q) dX7_stay_65 ⟨_, rfl, ?_⟩
              refine a_if_ne_b 73 hX dX7_stay_68 (by decide) (fun c_68 => ?_) (fun c_68 => ?_)
              · refine a_new hX hZ.2.2 (by have h8 := hC.1.2.1; have h9 := hC.1.2.2.1; omega) cl_X7_9 (by have h9 := hZ.1; omega) dX7_stay_73 (fun w73 hn73 => ?_)
                have hlt : w.2.2.1 < w73.2.2.1 := by rw [hn73.2.1]; omega
                refine a_dup hX dX7_stay_76 rfl ?_
                refine a_aload_n hX dX7_stay_77 rfl ?_
                refine gf_X7_22 rfl hX dX7_stay_78 ?_
                refine a_iconst (3) hX dX7_stay_81 (by decide) ?_
                refine a_iload_n hX dX7_stay_82 rfl ?_
                refine a_iload_n hX dX7_stay_83 rfl ?_
                rw [show w73.1 0 3 = nI (gt g) from by rw [hn73.2.2.1 0 (by omega)]; exact hC.1.1.2.2.1]
                refine a_callI [_, _, _, _] hX c_X0_init mi_X0_init mv_X0_init rfl li_X7_60 (by decide) rfl rfl (Nat.le_of_ble_eq_true rfl) (fun q => q) dX7_stay_84 ⟨_, _, _, _, _, rfl, hlt, ?_⟩
                intro w84 h84
                have e84 : w73.2.2.2 = w84.2.2.2 := by rw [h84.1.1]
                have hgn := hC.1.2.2.1
                have hp := Pd.init hC.1 hn73 h84.1 h84.2
                replace hlt : w.2.2.1 < w84.2.2.1 := by rw [h84.1.1]; exact hlt
                rw [e84]
                refine a_astore (ls' := [_, _, _, _, _, _, _, _, _, _]) hX dX7_stay_87 (Nat.le_of_ble_eq_true rfl) rfl ?_
                refine a_aload hX dX7_stay_89 rfl ?_
                refine a_iload_n hX dX7_stay_91 rfl ?_
                refine pf_X7_70 hlt hX dX7_stay_92 ?_
                refine a_aload hX dX7_stay_95 rfl ?_
                refine a_iload hX dX7_stay_97 rfl ?_
                refine pf_X7_73 hlt hX dX7_stay_99 ?_
                refine a_aload hX dX7_stay_102 rfl ?_
                refine a_iload hX dX7_stay_104 rfl ?_
                refine pf_X7_87 hlt hX dX7_stay_106 ?_
                refine a_aload hX dX7_stay_109 rfl ?_
                refine a_iload hX dX7_stay_111 rfl ?_
                refine pf_X7_90 hlt hX dX7_stay_113 ?_
                refine a_aload_n hX dX7_stay_116 rfl ?_
                refine a_aload hX dX7_stay_117 rfl ?_
                refine a_callV [_] hX c_X7_tell mi_X7_tell mv_X7_tell se_X7_tell (klt rfl (by decide)) (adr_lt (kd_lt rfl (by decide))) (cell_7 rfl) rfl li_X7_63 (by decide) rfl rfl (Nat.le_of_ble_eq_true rfl) (fun q => q) dX7_stay_119 ⟨g, w, en9 (nI (gt g)) 3 p l k f t s 0, rfl, hC, ((((((((hp).p4 hgn)).p5 hgn)).p6 hgn)).p7 hgn), ho, fun h4 => ok_stay ho h4 c_10 (by grind) c_68 c_45 c_53, ?_⟩
                intro wT hcT hmT
                refine a_iret hX hR dX7_stay_122 ⟨Nat.le_of_ble_eq_true rfl, Nat.le_of_ble_eq_true rfl⟩ rfl ?_
                exact fin_t h (by unfold stayS; grind) hcT (FrM.rf.tr hmT)
              · refine a_iconst (3) hX dX7_stay_71 (by decide) ?_
                refine a_iret hX hR dX7_stay_72 ⟨Nat.le_of_ble_eq_true rfl, Nat.le_of_ble_eq_true rfl⟩ rfl ?_
                exact fin_o h (by unfold stayS; grind) hC FrM.rf
    · refine a_iload_n hX dX7_stay_22 rfl ?_
      refine a_bipush (7) hX dX7_stay_23 (by decide) ?_
      refine a_icmp_ne 32 hX dX7_stay_25 (by decide) (fun c_25 => ?_) (fun c_25 => ?_)
      · refine a_iconst (0) hX dX7_stay_32 (by decide) ?_
        refine a_istore (ls' := [_, _, _, _, _, _, _, _, _, _]) hX dX7_stay_33 (Nat.le_of_ble_eq_true rfl) rfl ?_
        refine a_iload hX dX7_stay_35 rfl ?_
        refine a_if_eq 71 hX dX7_stay_37 (by decide) (fun c_37 => ?_) (fun c_37 => ?_)
        · refine a_iconst (3) hX dX7_stay_71 (by decide) ?_
          refine a_iret hX hR dX7_stay_72 ⟨Nat.le_of_ble_eq_true rfl, Nat.le_of_ble_eq_true rfl⟩ rfl ?_
          exact fin_o h (by unfold stayS; grind) hC FrM.rf
        · refine a_iload hX dX7_stay_40 rfl ?_
          refine a_callS [_] hX c_X7_isDay mi_X7_isDay ms_X7_isDay li_X7_52 (by decide) rfl rfl (Nat.le_of_ble_eq_true rfl) (fun q => q) dX7_stay_42 ⟨_, rfl, ?_⟩
          refine a_if_eq_b 71 hX dX7_stay_45 (by decide) (fun c_45 => ?_) (fun c_45 => ?_)
          · refine a_iconst (3) hX dX7_stay_71 (by decide) ?_
            refine a_iret hX hR dX7_stay_72 ⟨Nat.le_of_ble_eq_true rfl, Nat.le_of_ble_eq_true rfl⟩ rfl ?_
            exact fin_o h (by unfold stayS; grind) hC FrM.rf
          · refine a_iload hX dX7_stay_48 rfl ?_
            refine a_callS [_] hX c_X7_isDay mi_X7_isDay ms_X7_isDay li_X7_52 (by decide) rfl rfl (Nat.le_of_ble_eq_true rfl) (fun q => q) dX7_stay_50 ⟨_, rfl, ?_⟩
            refine a_if_eq_b 71 hX dX7_stay_53 (by decide) (fun c_53 => ?_) (fun c_53 => ?_)
            · refine a_iconst (3) hX dX7_stay_71 (by decide) ?_
              refine a_iret hX hR dX7_stay_72 ⟨Nat.le_of_ble_eq_true rfl, Nat.le_of_ble_eq_true rfl⟩ rfl ?_
              exact fin_o h (by unfold stayS; grind) hC FrM.rf
            · refine a_iload hX dX7_stay_56 rfl ?_
              refine a_iload hX dX7_stay_58 rfl ?_
              refine a_icmp_lt 71 hX dX7_stay_60 (by decide) (fun c_60 => ?_) (fun c_60 => ?_)
              · refine a_iconst (3) hX dX7_stay_71 (by decide) ?_
                refine a_iret hX hR dX7_stay_72 ⟨Nat.le_of_ble_eq_true rfl, Nat.le_of_ble_eq_true rfl⟩ rfl ?_
                exact fin_o h (by unfold stayS; grind) hC FrM.rf
              · refine a_iload hX dX7_stay_63 rfl ?_
                refine a_callS [_] hX c_X7_isSet mi_X7_isSet ms_X7_isSet li_X7_76 (by decide) rfl rfl (Nat.le_of_ble_eq_true rfl) (fun q => q) dX7_stay_65 ⟨_, rfl, ?_⟩
                refine a_if_ne_b 73 hX dX7_stay_68 (by decide) (fun c_68 => ?_) (fun c_68 => ?_)
                · refine a_new hX hZ.2.2 (by have h8 := hC.1.2.1; have h9 := hC.1.2.2.1; omega) cl_X7_9 (by have h9 := hZ.1; omega) dX7_stay_73 (fun w73 hn73 => ?_)
                  have hlt : w.2.2.1 < w73.2.2.1 := by rw [hn73.2.1]; omega
                  refine a_dup hX dX7_stay_76 rfl ?_
                  refine a_aload_n hX dX7_stay_77 rfl ?_
                  refine gf_X7_22 rfl hX dX7_stay_78 ?_
                  refine a_iconst (3) hX dX7_stay_81 (by decide) ?_
                  refine a_iload_n hX dX7_stay_82 rfl ?_
                  refine a_iload_n hX dX7_stay_83 rfl ?_
                  rw [show w73.1 0 3 = nI (gt g) from by rw [hn73.2.2.1 0 (by omega)]; exact hC.1.1.2.2.1]
                  refine a_callI [_, _, _, _] hX c_X0_init mi_X0_init mv_X0_init rfl li_X7_60 (by decide) rfl rfl (Nat.le_of_ble_eq_true rfl) (fun q => q) dX7_stay_84 ⟨_, _, _, _, _, rfl, hlt, ?_⟩
                  intro w84 h84
                  have e84 : w73.2.2.2 = w84.2.2.2 := by rw [h84.1.1]
                  have hgn := hC.1.2.2.1
                  have hp := Pd.init hC.1 hn73 h84.1 h84.2
                  replace hlt : w.2.2.1 < w84.2.2.1 := by rw [h84.1.1]; exact hlt
                  rw [e84]
                  refine a_astore (ls' := [_, _, _, _, _, _, _, _, _, _]) hX dX7_stay_87 (Nat.le_of_ble_eq_true rfl) rfl ?_
                  refine a_aload hX dX7_stay_89 rfl ?_
                  refine a_iload_n hX dX7_stay_91 rfl ?_
                  refine pf_X7_70 hlt hX dX7_stay_92 ?_
                  refine a_aload hX dX7_stay_95 rfl ?_
                  refine a_iload hX dX7_stay_97 rfl ?_
                  refine pf_X7_73 hlt hX dX7_stay_99 ?_
                  refine a_aload hX dX7_stay_102 rfl ?_
                  refine a_iload hX dX7_stay_104 rfl ?_
                  refine pf_X7_87 hlt hX dX7_stay_106 ?_
                  refine a_aload hX dX7_stay_109 rfl ?_
                  refine a_iload hX dX7_stay_111 rfl ?_
                  refine pf_X7_90 hlt hX dX7_stay_113 ?_
                  refine a_aload_n hX dX7_stay_116 rfl ?_
                  refine a_aload hX dX7_stay_117 rfl ?_
                  refine a_callV [_] hX c_X7_tell mi_X7_tell mv_X7_tell se_X7_tell (klt rfl (by decide)) (adr_lt (kd_lt rfl (by decide))) (cell_7 rfl) rfl li_X7_63 (by decide) rfl rfl (Nat.le_of_ble_eq_true rfl) (fun q => q) dX7_stay_119 ⟨g, w, en9 (nI (gt g)) 3 p l k f t s 0, rfl, hC, ((((((((hp).p4 hgn)).p5 hgn)).p6 hgn)).p7 hgn), ho, fun h4 => ok_stay ho h4 c_10 (by grind) c_68 c_45 c_53, ?_⟩
                  intro wT hcT hmT
                  refine a_iret hX hR dX7_stay_122 ⟨Nat.le_of_ble_eq_true rfl, Nat.le_of_ble_eq_true rfl⟩ rfl ?_
                  exact fin_t h (by unfold stayS; grind) hcT (FrM.rf.tr hmT)
                · refine a_iconst (3) hX dX7_stay_71 (by decide) ?_
                  refine a_iret hX hR dX7_stay_72 ⟨Nat.le_of_ble_eq_true rfl, Nat.le_of_ble_eq_true rfl⟩ rfl ?_
                  exact fin_o h (by unfold stayS; grind) hC FrM.rf
      · refine a_iconst (1) hX dX7_stay_28 (by decide) ?_
        refine a_goto 33 hX dX7_stay_29 (by decide) ?_
        refine a_istore (ls' := [_, _, _, _, _, _, _, _, _, _]) hX dX7_stay_33 (Nat.le_of_ble_eq_true rfl) rfl ?_
        refine a_iload hX dX7_stay_35 rfl ?_
        refine a_if_eq 71 hX dX7_stay_37 (by decide) (fun c_37 => ?_) (fun c_37 => ?_)
        · refine a_iconst (3) hX dX7_stay_71 (by decide) ?_
          refine a_iret hX hR dX7_stay_72 ⟨Nat.le_of_ble_eq_true rfl, Nat.le_of_ble_eq_true rfl⟩ rfl ?_
          exact fin_o h (by unfold stayS; grind) hC FrM.rf
        · refine a_iload hX dX7_stay_40 rfl ?_
          refine a_callS [_] hX c_X7_isDay mi_X7_isDay ms_X7_isDay li_X7_52 (by decide) rfl rfl (Nat.le_of_ble_eq_true rfl) (fun q => q) dX7_stay_42 ⟨_, rfl, ?_⟩
          refine a_if_eq_b 71 hX dX7_stay_45 (by decide) (fun c_45 => ?_) (fun c_45 => ?_)
          · refine a_iconst (3) hX dX7_stay_71 (by decide) ?_
            refine a_iret hX hR dX7_stay_72 ⟨Nat.le_of_ble_eq_true rfl, Nat.le_of_ble_eq_true rfl⟩ rfl ?_
            exact fin_o h (by unfold stayS; grind) hC FrM.rf
          · refine a_iload hX dX7_stay_48 rfl ?_
            refine a_callS [_] hX c_X7_isDay mi_X7_isDay ms_X7_isDay li_X7_52 (by decide) rfl rfl (Nat.le_of_ble_eq_true rfl) (fun q => q) dX7_stay_50 ⟨_, rfl, ?_⟩
            refine a_if_eq_b 71 hX dX7_stay_53 (by decide) (fun c_53 => ?_) (fun c_53 => ?_)
            · refine a_iconst (3) hX dX7_stay_71 (by decide) ?_
              refine a_iret hX hR dX7_stay_72 ⟨Nat.le_of_ble_eq_true rfl, Nat.le_of_ble_eq_true rfl⟩ rfl ?_
              exact fin_o h (by unfold stayS; grind) hC FrM.rf
            · refine a_iload hX dX7_stay_56 rfl ?_
              refine a_iload hX dX7_stay_58 rfl ?_
              refine a_icmp_lt 71 hX dX7_stay_60 (by decide) (fun c_60 => ?_) (fun c_60 => ?_)
              · refine a_iconst (3) hX dX7_stay_71 (by decide) ?_
                refine a_iret hX hR dX7_stay_72 ⟨Nat.le_of_ble_eq_true rfl, Nat.le_of_ble_eq_true rfl⟩ rfl ?_
                exact fin_o h (by unfold stayS; grind) hC FrM.rf
              · refine a_iload hX dX7_stay_63 rfl ?_
                refine a_callS [_] hX c_X7_isSet mi_X7_isSet ms_X7_isSet li_X7_76 (by decide) rfl rfl (Nat.le_of_ble_eq_true rfl) (fun q => q) dX7_stay_65 ⟨_, rfl, ?_⟩
                refine a_if_ne_b 73 hX dX7_stay_68 (by decide) (fun c_68 => ?_) (fun c_68 => ?_)
                · refine a_new hX hZ.2.2 (by have h8 := hC.1.2.1; have h9 := hC.1.2.2.1; omega) cl_X7_9 (by have h9 := hZ.1; omega) dX7_stay_73 (fun w73 hn73 => ?_)
                  have hlt : w.2.2.1 < w73.2.2.1 := by rw [hn73.2.1]; omega
                  refine a_dup hX dX7_stay_76 rfl ?_
                  refine a_aload_n hX dX7_stay_77 rfl ?_
                  refine gf_X7_22 rfl hX dX7_stay_78 ?_
                  refine a_iconst (3) hX dX7_stay_81 (by decide) ?_
                  refine a_iload_n hX dX7_stay_82 rfl ?_
                  refine a_iload_n hX dX7_stay_83 rfl ?_
                  rw [show w73.1 0 3 = nI (gt g) from by rw [hn73.2.2.1 0 (by omega)]; exact hC.1.1.2.2.1]
                  refine a_callI [_, _, _, _] hX c_X0_init mi_X0_init mv_X0_init rfl li_X7_60 (by decide) rfl rfl (Nat.le_of_ble_eq_true rfl) (fun q => q) dX7_stay_84 ⟨_, _, _, _, _, rfl, hlt, ?_⟩
                  intro w84 h84
                  have e84 : w73.2.2.2 = w84.2.2.2 := by rw [h84.1.1]
                  have hgn := hC.1.2.2.1
                  have hp := Pd.init hC.1 hn73 h84.1 h84.2
                  replace hlt : w.2.2.1 < w84.2.2.1 := by rw [h84.1.1]; exact hlt
                  rw [e84]
                  refine a_astore (ls' := [_, _, _, _, _, _, _, _, _, _]) hX dX7_stay_87 (Nat.le_of_ble_eq_true rfl) rfl ?_
                  refine a_aload hX dX7_stay_89 rfl ?_
                  refine a_iload_n hX dX7_stay_91 rfl ?_
                  refine pf_X7_70 hlt hX dX7_stay_92 ?_
                  refine a_aload hX dX7_stay_95 rfl ?_
                  refine a_iload hX dX7_stay_97 rfl ?_
                  refine pf_X7_73 hlt hX dX7_stay_99 ?_
                  refine a_aload hX dX7_stay_102 rfl ?_
                  refine a_iload hX dX7_stay_104 rfl ?_
                  refine pf_X7_87 hlt hX dX7_stay_106 ?_
                  refine a_aload hX dX7_stay_109 rfl ?_
                  refine a_iload hX dX7_stay_111 rfl ?_
                  refine pf_X7_90 hlt hX dX7_stay_113 ?_
                  refine a_aload_n hX dX7_stay_116 rfl ?_
                  refine a_aload hX dX7_stay_117 rfl ?_
                  refine a_callV [_] hX c_X7_tell mi_X7_tell mv_X7_tell se_X7_tell (klt rfl (by decide)) (adr_lt (kd_lt rfl (by decide))) (cell_7 rfl) rfl li_X7_63 (by decide) rfl rfl (Nat.le_of_ble_eq_true rfl) (fun q => q) dX7_stay_119 ⟨g, w, en9 (nI (gt g)) 3 p l k f t s 0, rfl, hC, ((((((((hp).p4 hgn)).p5 hgn)).p6 hgn)).p7 hgn), ho, fun h4 => ok_stay ho h4 c_10 (by grind) c_68 c_45 c_53, ?_⟩
                  intro wT hcT hmT
                  refine a_iret hX hR dX7_stay_122 ⟨Nat.le_of_ble_eq_true rfl, Nat.le_of_ble_eq_true rfl⟩ rfl ?_
                  exact fin_t h (by unfold stayS; grind) hcT (FrM.rf.tr hmT)
                · refine a_iconst (3) hX dX7_stay_71 (by decide) ?_
                  refine a_iret hX hR dX7_stay_72 ⟨Nat.le_of_ble_eq_true rfl, Nat.le_of_ble_eq_true rfl⟩ rfl ?_
                  exact fin_o h (by unfold stayS; grind) hC FrM.rf
  · refine a_iload hX dX7_stay_13 rfl ?_
    refine a_iret hX hR dX7_stay_15 ⟨Nat.le_of_ble_eq_true rfl, Nat.le_of_ble_eq_true rfl⟩ rfl ?_
    exact fin_o h (by first | (simp [stayS, c_10]; done) | (unfold stayS; grind)) hC FrM.rf
abbrev T_X7_month : Tr := fun lay av w Po => ∃ (g : Sg) (p m b n : Int32), av = [.ref (lay 0), .int p, .int m, .int b, .int n] ∧ (CI g w) ∧ (okS g) ∧ ∀ w' : St, CI (monthS g p m b n).2 w' → FrM w w' → Po (some (.int (monthS g p m b n).1)) w'
set_option maxRecDepth 100000 in
set_option maxHeartbeats 4000000 in
theorem c_X7_month : Ct yX7_month cX7_month 6 (some .int) 6 1 9 T_X7_month := by
  refine Ct.mk2 (by decide +kernel) ?_
  intro X av w Po hX hR hZ hT
  obtain ⟨g, p, m, b, n, rfl, hC, ho, h⟩ := hT
  refine ⟨rfl, ?_⟩
  show A X 0 0 0 [some (.ref (xlay X 0)), some (.int p), some (.int m), some (.int b), some (.int n), none] [] w
  refine a_aload_n hX dX7_month_0 rfl ?_
  refine a_iload_n hX dX7_month_1 rfl ?_
  refine a_callV [_] hX c_X7_isPerson mi_X7_isPerson mv_X7_isPerson se_X7_isPerson (klt rfl (by decide)) (adr_lt (kd_lt rfl (by decide))) (cell_7 rfl) rfl li_X7_106 (by decide) rfl rfl (Nat.le_of_ble_eq_true rfl) (fun q => q) dX7_month_2 ⟨_, rfl, ?_⟩
  rw [hC.1.1.2.1]
  refine a_if_eq_b 15 hX dX7_month_5 (by decide) (fun c_5 => ?_) (fun c_5 => ?_)
  · refine a_iconst (1) hX dX7_month_15 (by decide) ?_
    refine a_iret hX hR dX7_month_16 ⟨Nat.le_of_ble_eq_true rfl, Nat.le_of_ble_eq_true rfl⟩ rfl ?_
    exact fin_o h (by unfold monthS; grind) hC FrM.rf
  · refine a_iload_n hX dX7_month_8 rfl ?_
    refine a_callS [_] hX c_X7_isMonth mi_X7_isMonth ms_X7_isMonth li_X7_109 (by decide) rfl rfl (Nat.le_of_ble_eq_true rfl) (fun q => q) dX7_month_9 ⟨_, rfl, ?_⟩
    refine a_if_ne_b 17 hX dX7_month_12 (by decide) (fun c_12 => ?_) (fun c_12 => ?_)
    · refine a_iload hX dX7_month_17 rfl ?_
      refine a_if_lt 29 hX dX7_month_19 (by decide) (fun c_19 => ?_) (fun c_19 => ?_)
      · refine a_iconst (3) hX dX7_month_29 (by decide) ?_
        refine a_iret hX hR dX7_month_30 ⟨Nat.le_of_ble_eq_true rfl, Nat.le_of_ble_eq_true rfl⟩ rfl ?_
        exact fin_o h (by unfold monthS; grind) hC FrM.rf
      · refine a_iload hX dX7_month_22 rfl ?_
        refine a_bipush (30) hX dX7_month_24 (by decide) ?_
        refine a_icmp_le 31 hX dX7_month_26 (by decide) (fun c_26 => ?_) (fun c_26 => ?_)
        · refine a_new hX hZ.2.2 (by have h8 := hC.1.2.1; have h9 := hC.1.2.2.1; omega) cl_X7_9 (by have h9 := hZ.1; omega) dX7_month_31 (fun w31 hn31 => ?_)
          have hlt : w.2.2.1 < w31.2.2.1 := by rw [hn31.2.1]; omega
          refine a_dup hX dX7_month_34 rfl ?_
          refine a_aload_n hX dX7_month_35 rfl ?_
          refine gf_X7_22 rfl hX dX7_month_36 ?_
          refine a_iconst (5) hX dX7_month_39 (by decide) ?_
          refine a_iload_n hX dX7_month_40 rfl ?_
          refine a_iload_n hX dX7_month_41 rfl ?_
          rw [show w31.1 0 3 = nI (gt g) from by rw [hn31.2.2.1 0 (by omega)]; exact hC.1.1.2.2.1]
          refine a_callI [_, _, _, _] hX c_X0_init mi_X0_init mv_X0_init rfl li_X7_60 (by decide) rfl rfl (Nat.le_of_ble_eq_true rfl) (fun q => q) dX7_month_42 ⟨_, _, _, _, _, rfl, hlt, ?_⟩
          intro w42 h42
          have e42 : w31.2.2.2 = w42.2.2.2 := by rw [h42.1.1]
          have hgn := hC.1.2.2.1
          have hp := Pd.init hC.1 hn31 h42.1 h42.2
          replace hlt : w.2.2.1 < w42.2.2.1 := by rw [h42.1.1]; exact hlt
          rw [e42]
          refine a_astore (ls' := [_, _, _, _, _, _]) hX dX7_month_45 (Nat.le_of_ble_eq_true rfl) rfl ?_
          refine a_aload hX dX7_month_47 rfl ?_
          refine a_iload_n hX dX7_month_49 rfl ?_
          refine a_if_eq 57 hX dX7_month_50 (by decide) (fun c_50 => ?_) (fun c_50 => ?_)
          · refine a_iconst (0) hX dX7_month_57 (by decide) ?_
            refine pf_X7_70 hlt hX dX7_month_58 ?_
            refine a_aload hX dX7_month_61 rfl ?_
            refine a_iload hX dX7_month_63 rfl ?_
            refine pf_X7_73 hlt hX dX7_month_65 ?_
            refine a_aload_n hX dX7_month_68 rfl ?_
            refine a_aload hX dX7_month_69 rfl ?_
            refine a_callV [_] hX c_X7_tell mi_X7_tell mv_X7_tell se_X7_tell (klt rfl (by decide)) (adr_lt (kd_lt rfl (by decide))) (cell_7 rfl) rfl li_X7_63 (by decide) rfl rfl (Nat.le_of_ble_eq_true rfl) (fun q => q) dX7_month_71 ⟨g, w, en9 (nI (gt g)) 5 p m (if b = 0 then 0 else 1) n 0 0 0, rfl, hC, (by first | (rw [if_neg c_50]; exact ((((hp).p4 hgn)).p5 hgn)) | (rw [if_pos c_50]; exact ((((hp).p4 hgn)).p5 hgn))), ho, fun h4 => ok_month ho h4 c_5 c_12 ⟨by grind, by grind⟩, ?_⟩
            intro wT hcT hmT
            refine a_iret hX hR dX7_month_74 ⟨Nat.le_of_ble_eq_true rfl, Nat.le_of_ble_eq_true rfl⟩ rfl ?_
            exact fin_t h (by unfold monthS; grind) hcT (FrM.rf.tr hmT)
          · refine a_iconst (1) hX dX7_month_53 (by decide) ?_
            refine a_goto 58 hX dX7_month_54 (by decide) ?_
            refine pf_X7_70 hlt hX dX7_month_58 ?_
            refine a_aload hX dX7_month_61 rfl ?_
            refine a_iload hX dX7_month_63 rfl ?_
            refine pf_X7_73 hlt hX dX7_month_65 ?_
            refine a_aload_n hX dX7_month_68 rfl ?_
            refine a_aload hX dX7_month_69 rfl ?_
            refine a_callV [_] hX c_X7_tell mi_X7_tell mv_X7_tell se_X7_tell (klt rfl (by decide)) (adr_lt (kd_lt rfl (by decide))) (cell_7 rfl) rfl li_X7_63 (by decide) rfl rfl (Nat.le_of_ble_eq_true rfl) (fun q => q) dX7_month_71 ⟨g, w, en9 (nI (gt g)) 5 p m (if b = 0 then 0 else 1) n 0 0 0, rfl, hC, (by first | (rw [if_neg c_50]; exact ((((hp).p4 hgn)).p5 hgn)) | (rw [if_pos c_50]; exact ((((hp).p4 hgn)).p5 hgn))), ho, fun h4 => ok_month ho h4 c_5 c_12 ⟨by grind, by grind⟩, ?_⟩
            intro wT hcT hmT
            refine a_iret hX hR dX7_month_74 ⟨Nat.le_of_ble_eq_true rfl, Nat.le_of_ble_eq_true rfl⟩ rfl ?_
            exact fin_t h (by unfold monthS; grind) hcT (FrM.rf.tr hmT)
        · refine a_iconst (3) hX dX7_month_29 (by decide) ?_
          refine a_iret hX hR dX7_month_30 ⟨Nat.le_of_ble_eq_true rfl, Nat.le_of_ble_eq_true rfl⟩ rfl ?_
          exact fin_o h (by unfold monthS; grind) hC FrM.rf
    · refine a_iconst (1) hX dX7_month_15 (by decide) ?_
      refine a_iret hX hR dX7_month_16 ⟨Nat.le_of_ble_eq_true rfl, Nat.le_of_ble_eq_true rfl⟩ rfl ?_
      exact fin_o h (by unfold monthS; grind) hC FrM.rf
abbrev T_X7_tear : Tr := fun lay av w Po => ∃ (g : Sg) (p m : Int32), av = [.ref (lay 0), .int p, .int m] ∧ (CI g w) ∧ (okS g) ∧ ∀ w' : St, CI (tearS g p m).2 w' → FrM w w' → Po (some (.int (tearS g p m).1)) w'
set_option maxRecDepth 100000 in
set_option maxHeartbeats 4000000 in
theorem c_X7_tear : Ct yX7_tear cX7_tear 3 (some .int) 6 1 9 T_X7_tear := by
  refine Ct.mk2 (by decide +kernel) ?_
  intro X av w Po hX hR hZ hT
  obtain ⟨g, p, m, rfl, hC, ho, h⟩ := hT
  refine ⟨rfl, ?_⟩
  show A X 0 0 0 [some (.ref (xlay X 0)), some (.int p), some (.int m)] [] w
  refine a_aload_n hX dX7_tear_0 rfl ?_
  refine a_iload_n hX dX7_tear_1 rfl ?_
  refine a_callV [_] hX c_X7_isPerson mi_X7_isPerson mv_X7_isPerson se_X7_isPerson (klt rfl (by decide)) (adr_lt (kd_lt rfl (by decide))) (cell_7 rfl) rfl li_X7_106 (by decide) rfl rfl (Nat.le_of_ble_eq_true rfl) (fun q => q) dX7_tear_2 ⟨_, rfl, ?_⟩
  rw [hC.1.1.2.1]
  refine a_if_eq_b 15 hX dX7_tear_5 (by decide) (fun c_5 => ?_) (fun c_5 => ?_)
  · refine a_iconst (1) hX dX7_tear_15 (by decide) ?_
    refine a_iret hX hR dX7_tear_16 ⟨Nat.le_of_ble_eq_true rfl, Nat.le_of_ble_eq_true rfl⟩ rfl ?_
    exact fin_o h (by unfold tearS; grind) hC FrM.rf
  · refine a_iload_n hX dX7_tear_8 rfl ?_
    refine a_callS [_] hX c_X7_isMonth mi_X7_isMonth ms_X7_isMonth li_X7_109 (by decide) rfl rfl (Nat.le_of_ble_eq_true rfl) (fun q => q) dX7_tear_9 ⟨_, rfl, ?_⟩
    refine a_if_ne_b 17 hX dX7_tear_12 (by decide) (fun c_12 => ?_) (fun c_12 => ?_)
    · refine a_aload_n hX dX7_tear_17 rfl ?_
      refine a_new hX hZ.2.2 (by have h8 := hC.1.2.1; have h9 := hC.1.2.2.1; omega) cl_X7_9 (by have h9 := hZ.1; omega) dX7_tear_18 (fun w18 hn18 => ?_)
      have hlt : w.2.2.1 < w18.2.2.1 := by rw [hn18.2.1]; omega
      refine a_dup hX dX7_tear_21 rfl ?_
      refine a_aload_n hX dX7_tear_22 rfl ?_
      refine gf_X7_22 rfl hX dX7_tear_23 ?_
      refine a_bipush (7) hX dX7_tear_26 (by decide) ?_
      refine a_iload_n hX dX7_tear_28 rfl ?_
      refine a_iload_n hX dX7_tear_29 rfl ?_
      rw [show w18.1 0 3 = nI (gt g) from by rw [hn18.2.2.1 0 (by omega)]; exact hC.1.1.2.2.1]
      refine a_callI [_, _, _, _] hX c_X0_init mi_X0_init mv_X0_init rfl li_X7_60 (by decide) rfl rfl (Nat.le_of_ble_eq_true rfl) (fun q => q) dX7_tear_30 ⟨_, _, _, _, _, rfl, hlt, ?_⟩
      intro w30 h30
      have e30 : w18.2.2.2 = w30.2.2.2 := by rw [h30.1.1]
      have hgn := hC.1.2.2.1
      have hp := Pd.init hC.1 hn18 h30.1 h30.2
      replace hlt : w.2.2.1 < w30.2.2.1 := by rw [h30.1.1]; exact hlt
      rw [e30]
      refine a_callV [_] hX c_X7_tell mi_X7_tell mv_X7_tell se_X7_tell (klt rfl (by decide)) (adr_lt (kd_lt rfl (by decide))) (cell_7 rfl) rfl li_X7_63 (by decide) rfl rfl (Nat.le_of_ble_eq_true rfl) (fun q => q) dX7_tear_33 ⟨g, w, en9 (nI (gt g)) 7 p m 0 0 0 0 0, rfl, hC, hp, ho, fun h4 => ok_tear ho h4 c_5 c_12, ?_⟩
      intro wT hcT hmT
      refine a_iret hX hR dX7_tear_36 ⟨Nat.le_of_ble_eq_true rfl, Nat.le_of_ble_eq_true rfl⟩ rfl ?_
      exact fin_t h (by unfold tearS; grind) hcT (FrM.rf.tr hmT)
    · refine a_iconst (1) hX dX7_tear_15 (by decide) ?_
      refine a_iret hX hR dX7_tear_16 ⟨Nat.le_of_ble_eq_true rfl, Nat.le_of_ble_eq_true rfl⟩ rfl ?_
      exact fin_o h (by unfold tearS; grind) hC FrM.rf
abbrev T_X7_held : Tr := fun lay av w Po => ∃ (g : Sg) (p m k v : Int32), av = [.ref (lay 0), .int p, .int m, .int k, .int v] ∧ (CI g w) ∧ (okS g) ∧ ∀ w' : St, CI (heldS g p m k v).2 w' → FrM w w' → Po (some (.int (heldS g p m k v).1)) w'
set_option maxRecDepth 100000 in
set_option maxHeartbeats 4000000 in
theorem c_X7_held : Ct yX7_held cX7_held 7 (some .int) 6 1 9 T_X7_held := by
  refine Ct.mk2 (by decide +kernel) ?_
  intro X av w Po hX hR hZ hT
  obtain ⟨g, p, m, k, v, rfl, hC, ho, h⟩ := hT
  refine ⟨rfl, ?_⟩
  show A X 0 0 0 [some (.ref (xlay X 0)), some (.int p), some (.int m), some (.int k), some (.int v), none, none] [] w
  refine a_aload_n hX dX7_held_0 rfl ?_
  refine a_aload_n hX dX7_held_1 rfl ?_
  refine gf_X7_31 rfl hX dX7_held_2 ?_
  refine a_iload_n hX dX7_held_5 rfl ?_
  refine a_callV [_, _] hX c_X7_fileOf mi_X7_fileOf mv_X7_fileOf se_X7_fileOf (klt rfl (by decide)) (adr_lt (kd_lt rfl (by decide))) (cell_7 rfl) rfl li_X7_112 (by decide) rfl rfl (Nat.le_of_ble_eq_true rfl) (fun q => q) dX7_held_6 ⟨2, (gp g), _, rfl, rfl, hC.1.1.2.1, ho.1.2.1, ?_⟩
  refine ⟨fun j6 hj6 hj66 e6 => ?_, fun hn6 => ?_⟩
  · subst e6
    refine a_astore (ls' := [_, _, _, _, _, _, _]) hX dX7_held_9 (Nat.le_of_ble_eq_true rfl) rfl ?_
    refine a_aload hX dX7_held_11 rfl ?_
    refine a_ifnull hX dX7_held_13 ?_
    refine a_iload_n hX dX7_held_16 rfl ?_
    refine a_callS [_] hX c_X7_isMonth mi_X7_isMonth ms_X7_isMonth li_X7_109 (by decide) rfl rfl (Nat.le_of_ble_eq_true rfl) (fun q => q) dX7_held_17 ⟨_, rfl, ?_⟩
    refine a_if_ne_b 25 hX dX7_held_20 (by decide) (fun c_20 => ?_) (fun c_20 => ?_)
    · obtain ⟨M, hM, rfl⟩ := isM_ex c_20
      have hF := hC.1.fl hj66
      have hm0 : mo (RSn g) (nI j6) (nI M) 0 = w.1 (2 + 1 + 1 + 17 * j6 + 2) M := by
        unfold mo
        rw [ix_nI (by omega), ix_nI (by omega), (hF.2.1 M hM).1]
      have hm1 : mo (RSn g) (nI j6) (nI M) 1 = w.1 (2 + 1 + 1 + 17 * j6 + 3) M := by
        unfold mo
        rw [ix_nI (by omega), ix_nI (by omega), (hF.2.1 M hM).2.1]
      have hip := isP_nI ho.1.2.1 hj6
      refine a_aload hX dX7_held_25 rfl ?_
      refine a_iload_n hX dX7_held_27 rfl ?_
      refine a_callV [_] hX c_X1_isRow mi_X1_isRow mv_X1_isRow se_X1_isRow (klt (K4_f (show kd 2 = 4 by first | rfl | assumption) hj66) (by decide)) (adr_lt (kd_lt (K4_f (show kd 2 = 4 by first | rfl | assumption) hj66) (by decide))) (cell_1 (K4_f (show kd 2 = 4 by first | rfl | assumption) hj66)) rfl li_X7_115 (by decide) rfl rfl (Nat.le_of_ble_eq_true rfl) (fun q => q) dX7_held_28 ⟨_, _, rfl, (K4_f rfl hj66), hM, ?_⟩
      refine a_if_eq_b 47 hX dX7_held_31 (by decide) (fun c_31 => ?_) (fun c_31 => ?_)
      · refine a_aload hX dX7_held_47 rfl ?_
        refine a_iload_n hX dX7_held_49 rfl ?_
        refine a_callV [_] hX c_X1_isRow mi_X1_isRow mv_X1_isRow se_X1_isRow (klt (K4_f (show kd 2 = 4 by first | rfl | assumption) hj66) (by decide)) (adr_lt (kd_lt (K4_f (show kd 2 = 4 by first | rfl | assumption) hj66) (by decide))) (cell_1 (K4_f (show kd 2 = 4 by first | rfl | assumption) hj66)) rfl li_X7_115 (by decide) rfl rfl (Nat.le_of_ble_eq_true rfl) (fun q => q) dX7_held_50 ⟨_, _, rfl, (K4_f rfl hj66), hM, ?_⟩
        refine a_if_eq_b 70 hX dX7_held_53 (by decide) (fun c_53 => ?_) (fun c_53 => ?_)
        · refine a_bipush (6) hX dX7_held_70 (by decide) ?_
          refine a_iret hX hR dX7_held_72 ⟨Nat.le_of_ble_eq_true rfl, Nat.le_of_ble_eq_true rfl⟩ rfl ?_
          exact fin_o h (by unfold heldS; grind) hC FrM.rf
        · refine a_iload_n hX dX7_held_56 rfl ?_
          refine a_if_lt 70 hX dX7_held_57 (by decide) (fun c_57 => ?_) (fun c_57 => ?_)
          · refine a_bipush (6) hX dX7_held_70 (by decide) ?_
            refine a_iret hX hR dX7_held_72 ⟨Nat.le_of_ble_eq_true rfl, Nat.le_of_ble_eq_true rfl⟩ rfl ?_
            exact fin_o h (by unfold heldS; grind) hC FrM.rf
          · refine a_iload_n hX dX7_held_60 rfl ?_
            refine a_aload hX dX7_held_61 rfl ?_
            refine a_iload_n hX dX7_held_63 rfl ?_
            refine a_callV [_] hX c_X1_rowLength mi_X1_rowLength mv_X1_rowLength se_X1_rowLength (klt (K4_f (show kd 2 = 4 by first | rfl | assumption) hj66) (by decide)) (adr_lt (kd_lt (K4_f (show kd 2 = 4 by first | rfl | assumption) hj66) (by decide))) (cell_1 (K4_f (show kd 2 = 4 by first | rfl | assumption) hj66)) rfl li_X7_124 (by decide) rfl rfl (Nat.le_of_ble_eq_true rfl) (fun q => q) dX7_held_64 ⟨_, _, rfl, (K4_f rfl hj66), hM, ?_⟩
            refine a_icmp_lt 73 hX dX7_held_67 (by decide) (fun c_67 => ?_) (fun c_67 => ?_)
            · refine a_new hX hZ.2.2 (by have h8 := hC.1.2.1; have h9 := hC.1.2.2.1; omega) cl_X7_9 (by have h9 := hZ.1; omega) dX7_held_73 (fun w73 hn73 => ?_)
              have hlt : w.2.2.1 < w73.2.2.1 := by rw [hn73.2.1]; omega
              refine a_dup hX dX7_held_76 rfl ?_
              refine a_aload_n hX dX7_held_77 rfl ?_
              refine gf_X7_22 rfl hX dX7_held_78 ?_
              refine a_bipush (6) hX dX7_held_81 (by decide) ?_
              refine a_iload_n hX dX7_held_83 rfl ?_
              refine a_iload_n hX dX7_held_84 rfl ?_
              rw [show w73.1 0 3 = nI (gt g) from by rw [hn73.2.2.1 0 (by omega)]; exact hC.1.1.2.2.1]
              refine a_callI [_, _, _, _] hX c_X0_init mi_X0_init mv_X0_init rfl li_X7_60 (by decide) rfl rfl (Nat.le_of_ble_eq_true rfl) (fun q => q) dX7_held_85 ⟨_, _, _, _, _, rfl, hlt, ?_⟩
              intro w85 h85
              have e85 : w73.2.2.2 = w85.2.2.2 := by rw [h85.1.1]
              have hgn := hC.1.2.2.1
              have hp := Pd.init hC.1 hn73 h85.1 h85.2
              replace hlt : w.2.2.1 < w85.2.2.1 := by rw [h85.1.1]; exact hlt
              rw [e85]
              refine a_astore (ls' := [_, _, _, _, _, _, _]) hX dX7_held_88 (Nat.le_of_ble_eq_true rfl) rfl ?_
              refine a_aload hX dX7_held_90 rfl ?_
              refine a_iload_n hX dX7_held_92 rfl ?_
              refine pf_X7_70 hlt hX dX7_held_93 ?_
              refine a_aload hX dX7_held_96 rfl ?_
              refine a_iload hX dX7_held_98 rfl ?_
              refine pf_X7_73 hlt hX dX7_held_100 ?_
              refine a_aload_n hX dX7_held_103 rfl ?_
              refine a_aload hX dX7_held_104 rfl ?_
              refine a_callV [_] hX c_X7_tell mi_X7_tell mv_X7_tell se_X7_tell (klt rfl (by decide)) (adr_lt (kd_lt rfl (by decide))) (cell_7 rfl) rfl li_X7_63 (by decide) rfl rfl (Nat.le_of_ble_eq_true rfl) (fun q => q) dX7_held_106 ⟨g, w, en9 (nI (gt g)) 6 (nI j6) (nI M) k v 0 0 0, rfl, hC, ((((hp).p4 hgn)).p5 hgn), ho, fun h4 => ok_held ho h4 hip (in_rng hM (by decide)) ⟨by grind, by grind⟩, ?_⟩
              intro wT hcT hmT
              refine a_iret hX hR dX7_held_109 ⟨Nat.le_of_ble_eq_true rfl, Nat.le_of_ble_eq_true rfl⟩ rfl ?_
              exact fin_t h (by unfold heldS; grind) hcT (FrM.rf.tr hmT)
            · refine a_bipush (6) hX dX7_held_70 (by decide) ?_
              refine a_iret hX hR dX7_held_72 ⟨Nat.le_of_ble_eq_true rfl, Nat.le_of_ble_eq_true rfl⟩ rfl ?_
              exact fin_o h (by unfold heldS; grind) hC FrM.rf
      · refine a_aload hX dX7_held_34 rfl ?_
        refine a_iload_n hX dX7_held_36 rfl ?_
        refine a_iload hX dX7_held_37 rfl ?_
        refine a_callV [_, _] hX c_X1_fitsRow mi_X1_fitsRow mv_X1_fitsRow se_X1_fitsRow (klt (K4_f (show kd 2 = 4 by first | rfl | assumption) hj66) (by decide)) (adr_lt (kd_lt (K4_f (show kd 2 = 4 by first | rfl | assumption) hj66) (by decide))) (cell_1 (K4_f (show kd 2 = 4 by first | rfl | assumption) hj66)) rfl li_X7_120 (by decide) rfl rfl (Nat.le_of_ble_eq_true rfl) (fun q => q) dX7_held_39 ⟨_, _, _, rfl, (K4_f rfl hj66), hM, ?_⟩
        refine a_if_ne_b 47 hX dX7_held_42 (by decide) (fun c_42 => ?_) (fun c_42 => ?_)
        · refine a_aload hX dX7_held_47 rfl ?_
          refine a_iload_n hX dX7_held_49 rfl ?_
          refine a_callV [_] hX c_X1_isRow mi_X1_isRow mv_X1_isRow se_X1_isRow (klt (K4_f (show kd 2 = 4 by first | rfl | assumption) hj66) (by decide)) (adr_lt (kd_lt (K4_f (show kd 2 = 4 by first | rfl | assumption) hj66) (by decide))) (cell_1 (K4_f (show kd 2 = 4 by first | rfl | assumption) hj66)) rfl li_X7_115 (by decide) rfl rfl (Nat.le_of_ble_eq_true rfl) (fun q => q) dX7_held_50 ⟨_, _, rfl, (K4_f rfl hj66), hM, ?_⟩
          refine a_if_eq_b 70 hX dX7_held_53 (by decide) (fun c_53 => ?_) (fun c_53 => ?_)
          · refine a_bipush (6) hX dX7_held_70 (by decide) ?_
            refine a_iret hX hR dX7_held_72 ⟨Nat.le_of_ble_eq_true rfl, Nat.le_of_ble_eq_true rfl⟩ rfl ?_
            exact fin_o h (by unfold heldS; grind) hC FrM.rf
          · refine a_iload_n hX dX7_held_56 rfl ?_
            refine a_if_lt 70 hX dX7_held_57 (by decide) (fun c_57 => ?_) (fun c_57 => ?_)
            · refine a_bipush (6) hX dX7_held_70 (by decide) ?_
              refine a_iret hX hR dX7_held_72 ⟨Nat.le_of_ble_eq_true rfl, Nat.le_of_ble_eq_true rfl⟩ rfl ?_
              exact fin_o h (by unfold heldS; grind) hC FrM.rf
            · refine a_iload_n hX dX7_held_60 rfl ?_
              refine a_aload hX dX7_held_61 rfl ?_
              refine a_iload_n hX dX7_held_63 rfl ?_
              refine a_callV [_] hX c_X1_rowLength mi_X1_rowLength mv_X1_rowLength se_X1_rowLength (klt (K4_f (show kd 2 = 4 by first | rfl | assumption) hj66) (by decide)) (adr_lt (kd_lt (K4_f (show kd 2 = 4 by first | rfl | assumption) hj66) (by decide))) (cell_1 (K4_f (show kd 2 = 4 by first | rfl | assumption) hj66)) rfl li_X7_124 (by decide) rfl rfl (Nat.le_of_ble_eq_true rfl) (fun q => q) dX7_held_64 ⟨_, _, rfl, (K4_f rfl hj66), hM, ?_⟩
              refine a_icmp_lt 73 hX dX7_held_67 (by decide) (fun c_67 => ?_) (fun c_67 => ?_)
              · refine a_new hX hZ.2.2 (by have h8 := hC.1.2.1; have h9 := hC.1.2.2.1; omega) cl_X7_9 (by have h9 := hZ.1; omega) dX7_held_73 (fun w73 hn73 => ?_)
                have hlt : w.2.2.1 < w73.2.2.1 := by rw [hn73.2.1]; omega
                refine a_dup hX dX7_held_76 rfl ?_
                refine a_aload_n hX dX7_held_77 rfl ?_
                refine gf_X7_22 rfl hX dX7_held_78 ?_
                refine a_bipush (6) hX dX7_held_81 (by decide) ?_
                refine a_iload_n hX dX7_held_83 rfl ?_
                refine a_iload_n hX dX7_held_84 rfl ?_
                rw [show w73.1 0 3 = nI (gt g) from by rw [hn73.2.2.1 0 (by omega)]; exact hC.1.1.2.2.1]
                refine a_callI [_, _, _, _] hX c_X0_init mi_X0_init mv_X0_init rfl li_X7_60 (by decide) rfl rfl (Nat.le_of_ble_eq_true rfl) (fun q => q) dX7_held_85 ⟨_, _, _, _, _, rfl, hlt, ?_⟩
                intro w85 h85
                have e85 : w73.2.2.2 = w85.2.2.2 := by rw [h85.1.1]
                have hgn := hC.1.2.2.1
                have hp := Pd.init hC.1 hn73 h85.1 h85.2
                replace hlt : w.2.2.1 < w85.2.2.1 := by rw [h85.1.1]; exact hlt
                rw [e85]
                refine a_astore (ls' := [_, _, _, _, _, _, _]) hX dX7_held_88 (Nat.le_of_ble_eq_true rfl) rfl ?_
                refine a_aload hX dX7_held_90 rfl ?_
                refine a_iload_n hX dX7_held_92 rfl ?_
                refine pf_X7_70 hlt hX dX7_held_93 ?_
                refine a_aload hX dX7_held_96 rfl ?_
                refine a_iload hX dX7_held_98 rfl ?_
                refine pf_X7_73 hlt hX dX7_held_100 ?_
                refine a_aload_n hX dX7_held_103 rfl ?_
                refine a_aload hX dX7_held_104 rfl ?_
                refine a_callV [_] hX c_X7_tell mi_X7_tell mv_X7_tell se_X7_tell (klt rfl (by decide)) (adr_lt (kd_lt rfl (by decide))) (cell_7 rfl) rfl li_X7_63 (by decide) rfl rfl (Nat.le_of_ble_eq_true rfl) (fun q => q) dX7_held_106 ⟨g, w, en9 (nI (gt g)) 6 (nI j6) (nI M) k v 0 0 0, rfl, hC, ((((hp).p4 hgn)).p5 hgn), ho, fun h4 => ok_held ho h4 hip (in_rng hM (by decide)) ⟨by grind, by grind⟩, ?_⟩
                intro wT hcT hmT
                refine a_iret hX hR dX7_held_109 ⟨Nat.le_of_ble_eq_true rfl, Nat.le_of_ble_eq_true rfl⟩ rfl ?_
                exact fin_t h (by unfold heldS; grind) hcT (FrM.rf.tr hmT)
              · refine a_bipush (6) hX dX7_held_70 (by decide) ?_
                refine a_iret hX hR dX7_held_72 ⟨Nat.le_of_ble_eq_true rfl, Nat.le_of_ble_eq_true rfl⟩ rfl ?_
                exact fin_o h (by unfold heldS; grind) hC FrM.rf
        · refine a_iconst (3) hX dX7_held_45 (by decide) ?_
          refine a_iret hX hR dX7_held_46 ⟨Nat.le_of_ble_eq_true rfl, Nat.le_of_ble_eq_true rfl⟩ rfl ?_
          exact fin_o h (by unfold heldS; grind) hC FrM.rf
    · refine a_iconst (1) hX dX7_held_23 (by decide) ?_
      refine a_iret hX hR dX7_held_24 ⟨Nat.le_of_ble_eq_true rfl, Nat.le_of_ble_eq_true rfl⟩ rfl ?_
      exact fin_o h (by unfold heldS; grind) hC FrM.rf
  · refine a_astoreN (ls' := [_, _, _, _, _, _, _]) hX dX7_held_9 (Nat.le_of_ble_eq_true rfl) rfl ?_
    refine a_aloadN hX dX7_held_11 rfl ?_
    refine a_ifnullN 23 hX dX7_held_13 (by decide) ?_
    refine a_iconst (1) hX dX7_held_23 (by decide) ?_
    refine a_iret hX hR dX7_held_24 ⟨Nat.le_of_ble_eq_true rfl, Nat.le_of_ble_eq_true rfl⟩ rfl ?_
    exact fin_o h (by unfold heldS; grind) hC FrM.rf
abbrev T_X7_copy : Tr := fun lay av w Po => ∃ (g : Sg) (p m o t : Int32), av = [.ref (lay 0), .int p, .int m, .int o, .int t] ∧ (CI g w) ∧ (okS g) ∧ ∀ w' : St, CI (copyS g p m o t).2 w' → FrM w w' → Po (some (.int (copyS g p m o t).1)) w'
set_option maxRecDepth 100000 in
set_option maxHeartbeats 4000000 in
theorem c_X7_copy : Ct yX7_copy cX7_copy 7 (some .int) 6 1 9 T_X7_copy := by
  refine Ct.mk2 (by decide +kernel) ?_
  intro X av w Po hX hR hZ hT
  obtain ⟨g, p, m, o, t, rfl, hC, ho, h⟩ := hT
  refine ⟨rfl, ?_⟩
  show A X 0 0 0 [some (.ref (xlay X 0)), some (.int p), some (.int m), some (.int o), some (.int t), none, none] [] w
  refine a_aload_n hX dX7_copy_0 rfl ?_
  refine a_aload_n hX dX7_copy_1 rfl ?_
  refine gf_X7_31 rfl hX dX7_copy_2 ?_
  refine a_iload_n hX dX7_copy_5 rfl ?_
  refine a_callV [_, _] hX c_X7_fileOf mi_X7_fileOf mv_X7_fileOf se_X7_fileOf (klt rfl (by decide)) (adr_lt (kd_lt rfl (by decide))) (cell_7 rfl) rfl li_X7_112 (by decide) rfl rfl (Nat.le_of_ble_eq_true rfl) (fun q => q) dX7_copy_6 ⟨2, (gp g), _, rfl, rfl, hC.1.1.2.1, ho.1.2.1, ?_⟩
  refine ⟨fun j6 hj6 hj66 e6 => ?_, fun hn6 => ?_⟩
  · subst e6
    refine a_astore (ls' := [_, _, _, _, _, _, _]) hX dX7_copy_9 (Nat.le_of_ble_eq_true rfl) rfl ?_
    refine a_aload hX dX7_copy_11 rfl ?_
    refine a_ifnull hX dX7_copy_13 ?_
    refine a_iload_n hX dX7_copy_16 rfl ?_
    refine a_callS [_] hX c_X7_isMonth mi_X7_isMonth ms_X7_isMonth li_X7_109 (by decide) rfl rfl (Nat.le_of_ble_eq_true rfl) (fun q => q) dX7_copy_17 ⟨_, rfl, ?_⟩
    refine a_if_eq_b 39 hX dX7_copy_20 (by decide) (fun c_20 => ?_) (fun c_20 => ?_)
    · refine a_iconst (1) hX dX7_copy_39 (by decide) ?_
      refine a_iret hX hR dX7_copy_40 ⟨Nat.le_of_ble_eq_true rfl, Nat.le_of_ble_eq_true rfl⟩ rfl ?_
      exact fin_o h (by unfold copyS; grind) hC FrM.rf
    · refine a_aload_n hX dX7_copy_23 rfl ?_
      refine a_iload_n hX dX7_copy_24 rfl ?_
      refine a_callV [_] hX c_X7_isPerson mi_X7_isPerson mv_X7_isPerson se_X7_isPerson (klt rfl (by decide)) (adr_lt (kd_lt rfl (by decide))) (cell_7 rfl) rfl li_X7_106 (by decide) rfl rfl (Nat.le_of_ble_eq_true rfl) (fun q => q) dX7_copy_25 ⟨_, rfl, ?_⟩
      rw [hC.1.1.2.1]
      refine a_if_eq_b 39 hX dX7_copy_28 (by decide) (fun c_28 => ?_) (fun c_28 => ?_)
      · refine a_iconst (1) hX dX7_copy_39 (by decide) ?_
        refine a_iret hX hR dX7_copy_40 ⟨Nat.le_of_ble_eq_true rfl, Nat.le_of_ble_eq_true rfl⟩ rfl ?_
        exact fin_o h (by unfold copyS; grind) hC FrM.rf
      · refine a_iload hX dX7_copy_31 rfl ?_
        refine a_callS [_] hX c_X7_isMonth mi_X7_isMonth ms_X7_isMonth li_X7_109 (by decide) rfl rfl (Nat.le_of_ble_eq_true rfl) (fun q => q) dX7_copy_33 ⟨_, rfl, ?_⟩
        refine a_if_ne_b 41 hX dX7_copy_36 (by decide) (fun c_36 => ?_) (fun c_36 => ?_)
        · obtain ⟨M, hM, rfl⟩ := isM_ex c_20
          have hF := hC.1.fl hj66
          have hm0 : mo (RSn g) (nI j6) (nI M) 0 = w.1 (2 + 1 + 1 + 17 * j6 + 2) M := by
            unfold mo
            rw [ix_nI (by omega), ix_nI (by omega), (hF.2.1 M hM).1]
          have hm1 : mo (RSn g) (nI j6) (nI M) 1 = w.1 (2 + 1 + 1 + 17 * j6 + 3) M := by
            unfold mo
            rw [ix_nI (by omega), ix_nI (by omega), (hF.2.1 M hM).2.1]
          have hip := isP_nI ho.1.2.1 hj6
          refine a_aload hX dX7_copy_41 rfl ?_
          refine a_iload_n hX dX7_copy_43 rfl ?_
          refine a_callV [_] hX c_X1_isRow mi_X1_isRow mv_X1_isRow se_X1_isRow (klt (K4_f (show kd 2 = 4 by first | rfl | assumption) hj66) (by decide)) (adr_lt (kd_lt (K4_f (show kd 2 = 4 by first | rfl | assumption) hj66) (by decide))) (cell_1 (K4_f (show kd 2 = 4 by first | rfl | assumption) hj66)) rfl li_X7_115 (by decide) rfl rfl (Nat.le_of_ble_eq_true rfl) (fun q => q) dX7_copy_44 ⟨_, _, rfl, (K4_f rfl hj66), hM, ?_⟩
          refine a_if_ne_b 53 hX dX7_copy_47 (by decide) (fun c_47 => ?_) (fun c_47 => ?_)
          · refine a_new hX hZ.2.2 (by have h8 := hC.1.2.1; have h9 := hC.1.2.2.1; omega) cl_X7_9 (by have h9 := hZ.1; omega) dX7_copy_53 (fun w53 hn53 => ?_)
            have hlt : w.2.2.1 < w53.2.2.1 := by rw [hn53.2.1]; omega
            refine a_dup hX dX7_copy_56 rfl ?_
            refine a_aload_n hX dX7_copy_57 rfl ?_
            refine gf_X7_22 rfl hX dX7_copy_58 ?_
            refine a_bipush (8) hX dX7_copy_61 (by decide) ?_
            refine a_iload_n hX dX7_copy_63 rfl ?_
            refine a_iload_n hX dX7_copy_64 rfl ?_
            rw [show w53.1 0 3 = nI (gt g) from by rw [hn53.2.2.1 0 (by omega)]; exact hC.1.1.2.2.1]
            refine a_callI [_, _, _, _] hX c_X0_init mi_X0_init mv_X0_init rfl li_X7_60 (by decide) rfl rfl (Nat.le_of_ble_eq_true rfl) (fun q => q) dX7_copy_65 ⟨_, _, _, _, _, rfl, hlt, ?_⟩
            intro w65 h65
            have e65 : w53.2.2.2 = w65.2.2.2 := by rw [h65.1.1]
            have hgn := hC.1.2.2.1
            have hp := Pd.init hC.1 hn53 h65.1 h65.2
            replace hlt : w.2.2.1 < w65.2.2.1 := by rw [h65.1.1]; exact hlt
            rw [e65]
            refine a_astore (ls' := [_, _, _, _, _, _, _]) hX dX7_copy_68 (Nat.le_of_ble_eq_true rfl) rfl ?_
            refine a_aload hX dX7_copy_70 rfl ?_
            refine a_iload_n hX dX7_copy_72 rfl ?_
            refine pf_X7_70 hlt hX dX7_copy_73 ?_
            refine a_aload hX dX7_copy_76 rfl ?_
            refine a_iload hX dX7_copy_78 rfl ?_
            refine pf_X7_73 hlt hX dX7_copy_80 ?_
            refine a_aload_n hX dX7_copy_83 rfl ?_
            refine a_aload hX dX7_copy_84 rfl ?_
            refine a_callV [_] hX c_X7_tell mi_X7_tell mv_X7_tell se_X7_tell (klt rfl (by decide)) (adr_lt (kd_lt rfl (by decide))) (cell_7 rfl) rfl li_X7_63 (by decide) rfl rfl (Nat.le_of_ble_eq_true rfl) (fun q => q) dX7_copy_86 ⟨g, w, en9 (nI (gt g)) 8 (nI j6) (nI M) o t 0 0 0, rfl, hC, ((((hp).p4 hgn)).p5 hgn), ho, fun h4 => ok_copy ho h4 hip (in_rng hM (by decide)) c_28 c_36 (by grind), ?_⟩
            intro wT hcT hmT
            refine a_iret hX hR dX7_copy_89 ⟨Nat.le_of_ble_eq_true rfl, Nat.le_of_ble_eq_true rfl⟩ rfl ?_
            exact fin_t h (by unfold copyS; grind) hcT (FrM.rf.tr hmT)
          · refine a_bipush (6) hX dX7_copy_50 (by decide) ?_
            refine a_iret hX hR dX7_copy_52 ⟨Nat.le_of_ble_eq_true rfl, Nat.le_of_ble_eq_true rfl⟩ rfl ?_
            exact fin_o h (by unfold copyS; grind) hC FrM.rf
        · refine a_iconst (1) hX dX7_copy_39 (by decide) ?_
          refine a_iret hX hR dX7_copy_40 ⟨Nat.le_of_ble_eq_true rfl, Nat.le_of_ble_eq_true rfl⟩ rfl ?_
          exact fin_o h (by unfold copyS; grind) hC FrM.rf
  · refine a_astoreN (ls' := [_, _, _, _, _, _, _]) hX dX7_copy_9 (Nat.le_of_ble_eq_true rfl) rfl ?_
    refine a_aloadN hX dX7_copy_11 rfl ?_
    refine a_ifnullN 39 hX dX7_copy_13 (by decide) ?_
    refine a_iconst (1) hX dX7_copy_39 (by decide) ?_
    refine a_iret hX hR dX7_copy_40 ⟨Nat.le_of_ble_eq_true rfl, Nat.le_of_ble_eq_true rfl⟩ rfl ?_
    exact fin_o h (by unfold copyS; grind) hC FrM.rf
abbrev T_X7_off : Tr := fun lay av w Po => ∃ (g : Sg) (p l k f : Int32), av = [.ref (lay 0), .int p, .int l, .int k, .int f] ∧ (CI g w) ∧ (okS g) ∧ ∀ w' : St, CI (offS g p l k f).2 w' → FrM w w' → Po (some (.int (offS g p l k f).1)) w'
set_option maxRecDepth 100000 in
set_option maxHeartbeats 4000000 in
theorem c_X7_off : Ct yX7_off cX7_off 7 (some .int) 6 1 9 T_X7_off := by
  refine Ct.mk2 (by decide +kernel) ?_
  intro X av w Po hX hR hZ hT
  obtain ⟨g, p, l, k, f, rfl, hC, ho, h⟩ := hT
  refine ⟨rfl, ?_⟩
  show A X 0 0 0 [some (.ref (xlay X 0)), some (.int p), some (.int l), some (.int k), some (.int f), none, none] [] w
  refine a_aload_n hX dX7_off_0 rfl ?_
  refine a_aload_n hX dX7_off_1 rfl ?_
  refine gf_X7_31 rfl hX dX7_off_2 ?_
  refine a_iload_n hX dX7_off_5 rfl ?_
  refine a_iload_n hX dX7_off_6 rfl ?_
  refine a_callV [_, _, _] hX c_X7_placeOf mi_X7_placeOf mv_X7_placeOf se_X7_placeOf (klt rfl (by decide)) (adr_lt (kd_lt rfl (by decide))) (cell_7 rfl) rfl li_X7_93 (by decide) rfl rfl (Nat.le_of_ble_eq_true rfl) (fun q => q) dX7_off_7 ⟨2, (gp g), _, _, rfl, rfl, hC.1.1.2.1, ho.1.2.1, ?_⟩
  refine ⟨fun j7 i7 hj7 hj67 hi7 e7 f7 => ?_, fun hn7 => ?_⟩
  · subst e7 f7
    refine a_astore (ls' := [_, _, _, _, _, _, _]) hX dX7_off_10 (Nat.le_of_ble_eq_true rfl) rfl ?_
    refine a_aload hX dX7_off_12 rfl ?_
    refine a_ifnonnull 19 hX dX7_off_14 (by decide) ?_
    have hip := isP_nI ho.1.2.1 hj7
    have hil := isL_nI hi7
    have hpl : ∀ k, k < 9 → pl (RSn g) (nI j7) (nI i7) k = w.1 (2 + 1 + 1 + 17 * j7 + 1 + 4 + i7) k := fun k hk => by
      unfold pl
      rw [ix_nI (by omega), ix_nI (by omega), hC.1.pl hj67 hi7 hk]
    have hp0 := hpl 0 (by decide)
    have hp5 := hpl 5 (by decide)
    refine a_iload_n hX dX7_off_19 rfl ?_
    refine a_iconst (2) hX dX7_off_20 (by decide) ?_
    refine a_icmp_lt 43 hX dX7_off_21 (by decide) (fun c_21 => ?_) (fun c_21 => ?_)
    · refine a_iconst (3) hX dX7_off_43 (by decide) ?_
      refine a_iret hX hR dX7_off_44 ⟨Nat.le_of_ble_eq_true rfl, Nat.le_of_ble_eq_true rfl⟩ rfl ?_
      exact fin_o h (by unfold offS; grind) hC FrM.rf
    · refine a_iload_n hX dX7_off_24 rfl ?_
      refine a_bipush (100) hX dX7_off_25 (by decide) ?_
      refine a_icmp_gt 43 hX dX7_off_27 (by decide) (fun c_27 => ?_) (fun c_27 => ?_)
      · refine a_iconst (3) hX dX7_off_43 (by decide) ?_
        refine a_iret hX hR dX7_off_44 ⟨Nat.le_of_ble_eq_true rfl, Nat.le_of_ble_eq_true rfl⟩ rfl ?_
        exact fin_o h (by unfold offS; grind) hC FrM.rf
      · refine a_iload hX dX7_off_30 rfl ?_
        refine a_if_lt 43 hX dX7_off_32 (by decide) (fun c_32 => ?_) (fun c_32 => ?_)
        · refine a_iconst (3) hX dX7_off_43 (by decide) ?_
          refine a_iret hX hR dX7_off_44 ⟨Nat.le_of_ble_eq_true rfl, Nat.le_of_ble_eq_true rfl⟩ rfl ?_
          exact fin_o h (by unfold offS; grind) hC FrM.rf
        · refine a_iload hX dX7_off_35 rfl ?_
          refine a_sipush (1000) hX dX7_off_37 (by decide) ?_
          refine a_icmp_le 45 hX dX7_off_40 (by decide) (fun c_40 => ?_) (fun c_40 => ?_)
          · refine a_aload hX dX7_off_45 rfl ?_
            refine a_callV [] hX c_X2_mayHaveRule mi_X2_mayHaveRule mv_X2_mayHaveRule se_X2_mayHaveRule (klt (K1_p (K4_f (show kd 2 = 4 by first | rfl | assumption) hj67) hi7) (by decide)) (adr_lt (kd_lt (K1_p (K4_f (show kd 2 = 4 by first | rfl | assumption) hj67) hi7) (by decide))) (cell_2 (K1_p (K4_f (show kd 2 = 4 by first | rfl | assumption) hj67) hi7)) rfl li_X7_128 (by decide) rfl rfl (Nat.le_of_ble_eq_true rfl) (fun q => q) dX7_off_47 ⟨_, rfl, (K1_p (K4_f (show kd 2 = 4 by first | rfl | assumption) hj67) hi7), ?_⟩
            refine a_if_ne_b 55 hX dX7_off_50 (by decide) (fun c_50 => ?_) (fun c_50 => ?_)
            · refine a_new hX hZ.2.2 (by have h8 := hC.1.2.1; have h9 := hC.1.2.2.1; omega) cl_X7_9 (by have h9 := hZ.1; omega) dX7_off_55 (fun w55 hn55 => ?_)
              have hlt : w.2.2.1 < w55.2.2.1 := by rw [hn55.2.1]; omega
              refine a_dup hX dX7_off_58 rfl ?_
              refine a_aload_n hX dX7_off_59 rfl ?_
              refine gf_X7_22 rfl hX dX7_off_60 ?_
              refine a_bipush (9) hX dX7_off_63 (by decide) ?_
              refine a_iload_n hX dX7_off_65 rfl ?_
              refine a_iload_n hX dX7_off_66 rfl ?_
              rw [show w55.1 0 3 = nI (gt g) from by rw [hn55.2.2.1 0 (by omega)]; exact hC.1.1.2.2.1]
              refine a_callI [_, _, _, _] hX c_X0_init mi_X0_init mv_X0_init rfl li_X7_60 (by decide) rfl rfl (Nat.le_of_ble_eq_true rfl) (fun q => q) dX7_off_67 ⟨_, _, _, _, _, rfl, hlt, ?_⟩
              intro w67 h67
              have e67 : w55.2.2.2 = w67.2.2.2 := by rw [h67.1.1]
              have hgn := hC.1.2.2.1
              have hp := Pd.init hC.1 hn55 h67.1 h67.2
              replace hlt : w.2.2.1 < w67.2.2.1 := by rw [h67.1.1]; exact hlt
              rw [e67]
              refine a_astore (ls' := [_, _, _, _, _, _, _]) hX dX7_off_70 (Nat.le_of_ble_eq_true rfl) rfl ?_
              refine a_aload hX dX7_off_72 rfl ?_
              refine a_iload_n hX dX7_off_74 rfl ?_
              refine pf_X7_70 hlt hX dX7_off_75 ?_
              refine a_aload hX dX7_off_78 rfl ?_
              refine a_iload hX dX7_off_80 rfl ?_
              refine pf_X7_73 hlt hX dX7_off_82 ?_
              refine a_aload_n hX dX7_off_85 rfl ?_
              refine a_aload hX dX7_off_86 rfl ?_
              refine a_callV [_] hX c_X7_tell mi_X7_tell mv_X7_tell se_X7_tell (klt rfl (by decide)) (adr_lt (kd_lt rfl (by decide))) (cell_7 rfl) rfl li_X7_63 (by decide) rfl rfl (Nat.le_of_ble_eq_true rfl) (fun q => q) dX7_off_88 ⟨g, w, en9 (nI (gt g)) 9 (nI j7) (nI i7) k f 0 0 0, rfl, hC, ((((hp).p4 hgn)).p5 hgn), ho, fun h4 => ok_off ho h4 hip hil ⟨by grind, by grind⟩ ⟨by grind, by grind⟩, ?_⟩
              intro wT hcT hmT
              refine a_iret hX hR dX7_off_91 ⟨Nat.le_of_ble_eq_true rfl, Nat.le_of_ble_eq_true rfl⟩ rfl ?_
              exact fin_t h (by unfold offS; grind) hcT (FrM.rf.tr hmT)
            · refine a_iconst (5) hX dX7_off_53 (by decide) ?_
              refine a_iret hX hR dX7_off_54 ⟨Nat.le_of_ble_eq_true rfl, Nat.le_of_ble_eq_true rfl⟩ rfl ?_
              exact fin_o h (by unfold offS; grind) hC FrM.rf
          · refine a_iconst (3) hX dX7_off_43 (by decide) ?_
            refine a_iret hX hR dX7_off_44 ⟨Nat.le_of_ble_eq_true rfl, Nat.le_of_ble_eq_true rfl⟩ rfl ?_
            exact fin_o h (by unfold offS; grind) hC FrM.rf
  · refine a_astoreN (ls' := [_, _, _, _, _, _, _]) hX dX7_off_10 (Nat.le_of_ble_eq_true rfl) rfl ?_
    refine a_aloadN hX dX7_off_12 rfl ?_
    refine a_ifnonnullN hX dX7_off_14 ?_
    refine a_iconst (1) hX dX7_off_17 (by decide) ?_
    refine a_iret hX hR dX7_off_18 ⟨Nat.le_of_ble_eq_true rfl, Nat.le_of_ble_eq_true rfl⟩ rfl ?_
    exact fin_o h (by unfold offS; grind) hC FrM.rf
abbrev T_X7_quash : Tr := fun lay av w Po => ∃ (g : Sg) (p l o : Int32), av = [.ref (lay 0), .int p, .int l, .int o] ∧ (CI g w) ∧ (okS g) ∧ ∀ w' : St, CI (quashS g p l o).2 w' → FrM w w' → Po (some (.int (quashS g p l o).1)) w'
set_option maxRecDepth 100000 in
set_option maxHeartbeats 4000000 in
theorem c_X7_quash : Ct yX7_quash cX7_quash 7 (some .int) 6 1 9 T_X7_quash := by
  refine Ct.mk2 (by decide +kernel) ?_
  intro X av w Po hX hR hZ hT
  obtain ⟨g, p, l, o, rfl, hC, ho, h⟩ := hT
  refine ⟨rfl, ?_⟩
  show A X 0 0 0 [some (.ref (xlay X 0)), some (.int p), some (.int l), some (.int o), none, none, none] [] w
  refine a_aload_n hX dX7_quash_0 rfl ?_
  refine a_aload_n hX dX7_quash_1 rfl ?_
  refine gf_X7_31 rfl hX dX7_quash_2 ?_
  refine a_iload_n hX dX7_quash_5 rfl ?_
  refine a_iload_n hX dX7_quash_6 rfl ?_
  refine a_callV [_, _, _] hX c_X7_placeOf mi_X7_placeOf mv_X7_placeOf se_X7_placeOf (klt rfl (by decide)) (adr_lt (kd_lt rfl (by decide))) (cell_7 rfl) rfl li_X7_93 (by decide) rfl rfl (Nat.le_of_ble_eq_true rfl) (fun q => q) dX7_quash_7 ⟨2, (gp g), _, _, rfl, rfl, hC.1.1.2.1, ho.1.2.1, ?_⟩
  refine ⟨fun j7 i7 hj7 hj67 hi7 e7 f7 => ?_, fun hn7 => ?_⟩
  · subst e7 f7
    refine a_astore (ls' := [_, _, _, _, _, _, _]) hX dX7_quash_10 (Nat.le_of_ble_eq_true rfl) rfl ?_
    refine a_aload hX dX7_quash_12 rfl ?_
    refine a_ifnonnull 19 hX dX7_quash_14 (by decide) ?_
    have hip := isP_nI ho.1.2.1 hj7
    have hio := isL_nI hi7
    have hpl : ∀ k, k < 9 → pl (RSn g) (nI j7) (nI i7) k = w.1 (2 + 1 + 1 + 17 * j7 + 1 + 4 + i7) k := fun k hk => by
      unfold pl
      rw [ix_nI (by omega), ix_nI (by omega), hC.1.pl hj67 hi7 hk]
    have hp0 := hpl 0 (by decide)
    have hp5 := hpl 5 (by decide)
    refine a_aload_n hX dX7_quash_19 rfl ?_
    refine a_iload_n hX dX7_quash_20 rfl ?_
    refine a_iload_n hX dX7_quash_21 rfl ?_
    refine a_callV [_, _] hX c_X7_putStatus mi_X7_putStatus mv_X7_putStatus se_X7_putStatus (klt rfl (by decide)) (adr_lt (kd_lt rfl (by decide))) (cell_7 rfl) rfl li_X7_56 (by decide) rfl rfl (Nat.le_of_ble_eq_true rfl) (fun q => q) dX7_quash_22 ⟨_, _, _, rfl, hC.1, ho, ?_⟩
    refine a_istore (ls' := [_, _, _, _, _, _, _]) hX dX7_quash_25 (Nat.le_of_ble_eq_true rfl) rfl ?_
    refine a_iload hX dX7_quash_27 rfl ?_
    refine a_if_eq 35 hX dX7_quash_29 (by decide) (fun c_29 => ?_) (fun c_29 => ?_)
    · refine a_aload hX dX7_quash_35 rfl ?_
      refine gf_X7_97 (K1_p (K4_f (show kd 2 = 4 by first | rfl | assumption) hj67) hi7) hX dX7_quash_37 ?_
      refine a_iconst (2) hX dX7_quash_40 (by decide) ?_
      refine a_icmp_lt 62 hX dX7_quash_41 (by decide) (fun c_41 => ?_) (fun c_41 => ?_)
      · refine a_iconst (5) hX dX7_quash_62 (by decide) ?_
        refine a_iret hX hR dX7_quash_63 ⟨Nat.le_of_ble_eq_true rfl, Nat.le_of_ble_eq_true rfl⟩ rfl ?_
        exact fin_o h (by unfold quashS; grind) hC FrM.rf
      · refine a_aload hX dX7_quash_44 rfl ?_
        refine gf_X7_97 (K1_p (K4_f (show kd 2 = 4 by first | rfl | assumption) hj67) hi7) hX dX7_quash_46 ?_
        refine a_bipush (7) hX dX7_quash_49 (by decide) ?_
        refine a_icmp_gt 62 hX dX7_quash_51 (by decide) (fun c_51 => ?_) (fun c_51 => ?_)
        · refine a_iconst (5) hX dX7_quash_62 (by decide) ?_
          refine a_iret hX hR dX7_quash_63 ⟨Nat.le_of_ble_eq_true rfl, Nat.le_of_ble_eq_true rfl⟩ rfl ?_
          exact fin_o h (by unfold quashS; grind) hC FrM.rf
        · refine a_aload hX dX7_quash_54 rfl ?_
          refine a_callV [] hX c_X2_isQuashed mi_X2_isQuashed mv_X2_isQuashed se_X2_isQuashed (klt (K1_p (K4_f (show kd 2 = 4 by first | rfl | assumption) hj67) hi7) (by decide)) (adr_lt (kd_lt (K1_p (K4_f (show kd 2 = 4 by first | rfl | assumption) hj67) hi7) (by decide))) (cell_2 (K1_p (K4_f (show kd 2 = 4 by first | rfl | assumption) hj67) hi7)) rfl li_X7_102 (by decide) rfl rfl (Nat.le_of_ble_eq_true rfl) (fun q => q) dX7_quash_56 ⟨_, rfl, (K1_p (K4_f (show kd 2 = 4 by first | rfl | assumption) hj67) hi7), ?_⟩
          refine a_if_eq_b 64 hX dX7_quash_59 (by decide) (fun c_59 => ?_) (fun c_59 => ?_)
          · refine a_new hX hZ.2.2 (by have h8 := hC.1.2.1; have h9 := hC.1.2.2.1; omega) cl_X7_9 (by have h9 := hZ.1; omega) dX7_quash_64 (fun w64 hn64 => ?_)
            have hlt : w.2.2.1 < w64.2.2.1 := by rw [hn64.2.1]; omega
            refine a_dup hX dX7_quash_67 rfl ?_
            refine a_aload_n hX dX7_quash_68 rfl ?_
            refine gf_X7_22 rfl hX dX7_quash_69 ?_
            refine a_iconst (4) hX dX7_quash_72 (by decide) ?_
            refine a_iload_n hX dX7_quash_73 rfl ?_
            refine a_iload_n hX dX7_quash_74 rfl ?_
            rw [show w64.1 0 3 = nI (gt g) from by rw [hn64.2.2.1 0 (by omega)]; exact hC.1.1.2.2.1]
            refine a_callI [_, _, _, _] hX c_X0_init mi_X0_init mv_X0_init rfl li_X7_60 (by decide) rfl rfl (Nat.le_of_ble_eq_true rfl) (fun q => q) dX7_quash_75 ⟨_, _, _, _, _, rfl, hlt, ?_⟩
            intro w75 h75
            have e75 : w64.2.2.2 = w75.2.2.2 := by rw [h75.1.1]
            have hgn := hC.1.2.2.1
            have hp := Pd.init hC.1 hn64 h75.1 h75.2
            replace hlt : w.2.2.1 < w75.2.2.1 := by rw [h75.1.1]; exact hlt
            rw [e75]
            refine a_astore (ls' := [_, _, _, _, _, _, _]) hX dX7_quash_78 (Nat.le_of_ble_eq_true rfl) rfl ?_
            refine a_aload hX dX7_quash_80 rfl ?_
            refine a_iload_n hX dX7_quash_82 rfl ?_
            refine pf_X7_70 hlt hX dX7_quash_83 ?_
            refine a_aload_n hX dX7_quash_86 rfl ?_
            refine a_aload hX dX7_quash_87 rfl ?_
            refine a_callV [_] hX c_X7_tell mi_X7_tell mv_X7_tell se_X7_tell (klt rfl (by decide)) (adr_lt (kd_lt rfl (by decide))) (cell_7 rfl) rfl li_X7_63 (by decide) rfl rfl (Nat.le_of_ble_eq_true rfl) (fun q => q) dX7_quash_89 ⟨g, w, en9 (nI (gt g)) 4 (nI j7) l (nI i7) 0 0 0 0, rfl, hC, ((hp).p4 hgn), ho, fun h4 => ok_quash ho h4 c_29 hio (by grind), ?_⟩
            intro wT hcT hmT
            refine a_iret hX hR dX7_quash_92 ⟨Nat.le_of_ble_eq_true rfl, Nat.le_of_ble_eq_true rfl⟩ rfl ?_
            exact fin_t h (by unfold quashS; grind) hcT (FrM.rf.tr hmT)
          · refine a_iconst (5) hX dX7_quash_62 (by decide) ?_
            refine a_iret hX hR dX7_quash_63 ⟨Nat.le_of_ble_eq_true rfl, Nat.le_of_ble_eq_true rfl⟩ rfl ?_
            exact fin_o h (by unfold quashS; grind) hC FrM.rf
    · refine a_iload hX dX7_quash_32 rfl ?_
      refine a_iret hX hR dX7_quash_34 ⟨Nat.le_of_ble_eq_true rfl, Nat.le_of_ble_eq_true rfl⟩ rfl ?_
      exact fin_o h (by unfold quashS; grind) hC FrM.rf
  · refine a_astoreN (ls' := [_, _, _, _, _, _, _]) hX dX7_quash_10 (Nat.le_of_ble_eq_true rfl) rfl ?_
    refine a_aloadN hX dX7_quash_12 rfl ?_
    refine a_ifnonnullN hX dX7_quash_14 ?_
    refine a_iconst (1) hX dX7_quash_17 (by decide) ?_
    refine a_iret hX hR dX7_quash_18 ⟨Nat.le_of_ble_eq_true rfl, Nat.le_of_ble_eq_true rfl⟩ rfl ?_
    have hS : quashS g p l o = (1, g) := by
      unfold quashS
      by_cases ho9 : isL o
      · rw [if_neg (not_not_intro ho9), room_out (fun z => hn7 ⟨z.1, ho9⟩), if_pos (by decide)]
      · rw [if_pos ho9]
    exact fin_o h hS hC FrM.rf
