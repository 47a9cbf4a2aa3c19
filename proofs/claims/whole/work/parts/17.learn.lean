/-! Registry.learn and on -/
abbrev T_X4_learn : Tr := fun lay av w Po => ∃ (r i : Nat) (S : RS), av = [.ref (lay r), .ref (w.2.2.2 i)] ∧ (kd r = 4) ∧ (i < w.2.2.1) ∧ (RegS w r S) ∧ (vE (w.1 (248 + i)) S) ∧ ∀ w' : St, Fr w w' (fun z => r + 2 ≤ z ∧ z < r + 104) → RegS w' r (lrn (w.1 (248 + i)) S) → Po none w'
set_option maxRecDepth 100000 in
set_option maxHeartbeats 4000000 in
theorem c_X4_learn : Ct yX4_learn cX4_learn 4 none 3 0 0 T_X4_learn := by
  refine Ct.mk (by decide +kernel) ?_
  intro X av w Po hX hR hT
  obtain ⟨r, i, S, rfl, hr, hi, hreg, hv, h⟩ := hT
  refine ⟨rfl, ?_⟩
  show A X 0 0 0 [some (.ref (xlay X r)), some (.ref (w.2.2.2 i)), none, none] [] w
  obtain ⟨P, hP, e2, hv⟩ := hv
  refine a_aload_n hX dX4_learn_0 rfl ?_
  refine a_aload_n hX dX4_learn_1 rfl ?_
  refine gf_X4_34 hi hX dX4_learn_2 ?_
  refine a_callV [_] hX c_X4_fileOf mi_X4_fileOf mv_X4_fileOf se_X4_fileOf (klt hr (by decide)) (adr_lt (kd_lt hr (by decide))) (cell_4 hr) rfl li_X4_29 (by decide) rfl rfl (Nat.le_of_ble_eq_true rfl) (fun q => q) dX4_learn_5 ⟨_, _, rfl, hr, Or.inl ⟨P, hP, e2, ?_⟩⟩
  refine a_astore_n (ls' := [_, _, _, _]) hX dX4_learn_8 (Nat.le_of_ble_eq_true rfl) rfl ?_
  refine a_aload_n hX dX4_learn_9 rfl ?_
  refine a_ifnonnull 14 hX dX4_learn_10 (by decide) ?_
  refine a_aload_n hX dX4_learn_14 rfl ?_
  refine gf_X4_39 hi hX dX4_learn_15 ?_
  rcases hv with ⟨e | e | e | e | e | e | e, hj⟩ | ⟨e, j, hj, e3, z, hz, e4⟩ | ⟨e, M, hM, e3, n, hn, e5⟩ | ⟨e, M, hM, e3, q, hq, e4, hql⟩ | ⟨e, M, hM, e3⟩ | ⟨e, M, hM, e3, Q, hQ, e4, T, hT, e5⟩ | e
  · rw [e]
    refine a_tableOut 165 hX dX4_learn_18 (by decide) (by decide) ?_
    refine a_aload_n hX dX4_learn_165 rfl ?_
    refine a_aload_n hX dX4_learn_166 rfl ?_
    refine a_aload_n hX dX4_learn_167 rfl ?_
    refine a_callV [_, _] hX c_X4_learnOfPlace mi_X4_learnOfPlace mv_X4_learnOfPlace se_X4_learnOfPlace (klt hr (by decide)) (adr_lt (kd_lt hr (by decide))) (cell_4 hr) rfl li_X4_70 (by decide) rfl rfl (Nat.le_of_ble_eq_true rfl) (fun q => q) dX4_learn_168 ⟨_, _, _, rfl, hr, (K4_f hr hP), hi, ⟨hj, Or.inl (by simp [e])⟩, ?_⟩
    intro w168 h168
    refine a_vret hX hR dX4_learn_171 ⟨Nat.le_refl _, Nat.le_refl _⟩ ?_
    refine h _ (h168.1.mono (fun z hz => by omega)) ?_
    exact regS_pl hreg hP e2 (by rw [e]; decide) (by rw [e]; decide) (by rw [e]; decide) (by rw [e]; decide) (by rw [e]; decide) h168
  · rw [e]
    refine a_tableOut 165 hX dX4_learn_18 (by decide) (by decide) ?_
    refine a_aload_n hX dX4_learn_165 rfl ?_
    refine a_aload_n hX dX4_learn_166 rfl ?_
    refine a_aload_n hX dX4_learn_167 rfl ?_
    refine a_callV [_, _] hX c_X4_learnOfPlace mi_X4_learnOfPlace mv_X4_learnOfPlace se_X4_learnOfPlace (klt hr (by decide)) (adr_lt (kd_lt hr (by decide))) (cell_4 hr) rfl li_X4_70 (by decide) rfl rfl (Nat.le_of_ble_eq_true rfl) (fun q => q) dX4_learn_168 ⟨_, _, _, rfl, hr, (K4_f hr hP), hi, ⟨hj, Or.inl (by simp [e])⟩, ?_⟩
    intro w168 h168
    refine a_vret hX hR dX4_learn_171 ⟨Nat.le_refl _, Nat.le_refl _⟩ ?_
    refine h _ (h168.1.mono (fun z hz => by omega)) ?_
    exact regS_pl hreg hP e2 (by rw [e]; decide) (by rw [e]; decide) (by rw [e]; decide) (by rw [e]; decide) (by rw [e]; decide) h168
  · rw [e]
    refine a_tableOut 165 hX dX4_learn_18 (by decide) (by decide) ?_
    refine a_aload_n hX dX4_learn_165 rfl ?_
    refine a_aload_n hX dX4_learn_166 rfl ?_
    refine a_aload_n hX dX4_learn_167 rfl ?_
    refine a_callV [_, _] hX c_X4_learnOfPlace mi_X4_learnOfPlace mv_X4_learnOfPlace se_X4_learnOfPlace (klt hr (by decide)) (adr_lt (kd_lt hr (by decide))) (cell_4 hr) rfl li_X4_70 (by decide) rfl rfl (Nat.le_of_ble_eq_true rfl) (fun q => q) dX4_learn_168 ⟨_, _, _, rfl, hr, (K4_f hr hP), hi, ⟨hj, Or.inl (by simp [e])⟩, ?_⟩
    intro w168 h168
    refine a_vret hX hR dX4_learn_171 ⟨Nat.le_refl _, Nat.le_refl _⟩ ?_
    refine h _ (h168.1.mono (fun z hz => by omega)) ?_
    exact regS_pl hreg hP e2 (by rw [e]; decide) (by rw [e]; decide) (by rw [e]; decide) (by rw [e]; decide) (by rw [e]; decide) h168
  · rw [e]
    refine a_tableOut 165 hX dX4_learn_18 (by decide) (by decide) ?_
    refine a_aload_n hX dX4_learn_165 rfl ?_
    refine a_aload_n hX dX4_learn_166 rfl ?_
    refine a_aload_n hX dX4_learn_167 rfl ?_
    refine a_callV [_, _] hX c_X4_learnOfPlace mi_X4_learnOfPlace mv_X4_learnOfPlace se_X4_learnOfPlace (klt hr (by decide)) (adr_lt (kd_lt hr (by decide))) (cell_4 hr) rfl li_X4_70 (by decide) rfl rfl (Nat.le_of_ble_eq_true rfl) (fun q => q) dX4_learn_168 ⟨_, _, _, rfl, hr, (K4_f hr hP), hi, ⟨hj, Or.inl (by simp [e])⟩, ?_⟩
    intro w168 h168
    refine a_vret hX hR dX4_learn_171 ⟨Nat.le_refl _, Nat.le_refl _⟩ ?_
    refine h _ (h168.1.mono (fun z hz => by omega)) ?_
    exact regS_pl hreg hP e2 (by rw [e]; decide) (by rw [e]; decide) (by rw [e]; decide) (by rw [e]; decide) (by rw [e]; decide) h168
  · rw [e]
    refine a_tableIn (off := 147) 165 hX dX4_learn_18 (by decide) (by decide) (by decide) (by decide) ?_
    refine a_aload_n hX dX4_learn_165 rfl ?_
    refine a_aload_n hX dX4_learn_166 rfl ?_
    refine a_aload_n hX dX4_learn_167 rfl ?_
    refine a_callV [_, _] hX c_X4_learnOfPlace mi_X4_learnOfPlace mv_X4_learnOfPlace se_X4_learnOfPlace (klt hr (by decide)) (adr_lt (kd_lt hr (by decide))) (cell_4 hr) rfl li_X4_70 (by decide) rfl rfl (Nat.le_of_ble_eq_true rfl) (fun q => q) dX4_learn_168 ⟨_, _, _, rfl, hr, (K4_f hr hP), hi, ⟨hj, Or.inl (by simp [e])⟩, ?_⟩
    intro w168 h168
    refine a_vret hX hR dX4_learn_171 ⟨Nat.le_refl _, Nat.le_refl _⟩ ?_
    refine h _ (h168.1.mono (fun z hz => by omega)) ?_
    exact regS_pl hreg hP e2 (by rw [e]; decide) (by rw [e]; decide) (by rw [e]; decide) (by rw [e]; decide) (by rw [e]; decide) h168
  · rw [e]
    refine a_tableIn (off := 147) 165 hX dX4_learn_18 (by decide) (by decide) (by decide) (by decide) ?_
    refine a_aload_n hX dX4_learn_165 rfl ?_
    refine a_aload_n hX dX4_learn_166 rfl ?_
    refine a_aload_n hX dX4_learn_167 rfl ?_
    refine a_callV [_, _] hX c_X4_learnOfPlace mi_X4_learnOfPlace mv_X4_learnOfPlace se_X4_learnOfPlace (klt hr (by decide)) (adr_lt (kd_lt hr (by decide))) (cell_4 hr) rfl li_X4_70 (by decide) rfl rfl (Nat.le_of_ble_eq_true rfl) (fun q => q) dX4_learn_168 ⟨_, _, _, rfl, hr, (K4_f hr hP), hi, ⟨hj, Or.inl (by simp [e])⟩, ?_⟩
    intro w168 h168
    refine a_vret hX hR dX4_learn_171 ⟨Nat.le_refl _, Nat.le_refl _⟩ ?_
    refine h _ (h168.1.mono (fun z hz => by omega)) ?_
    exact regS_pl hreg hP e2 (by rw [e]; decide) (by rw [e]; decide) (by rw [e]; decide) (by rw [e]; decide) (by rw [e]; decide) h168
  · rw [e]
    refine a_tableOut 165 hX dX4_learn_18 (by decide) (by decide) ?_
    refine a_aload_n hX dX4_learn_165 rfl ?_
    refine a_aload_n hX dX4_learn_166 rfl ?_
    refine a_aload_n hX dX4_learn_167 rfl ?_
    refine a_callV [_, _] hX c_X4_learnOfPlace mi_X4_learnOfPlace mv_X4_learnOfPlace se_X4_learnOfPlace (klt hr (by decide)) (adr_lt (kd_lt hr (by decide))) (cell_4 hr) rfl li_X4_70 (by decide) rfl rfl (Nat.le_of_ble_eq_true rfl) (fun q => q) dX4_learn_168 ⟨_, _, _, rfl, hr, (K4_f hr hP), hi, ⟨hj, Or.inl (by simp [e])⟩, ?_⟩
    intro w168 h168
    refine a_vret hX hR dX4_learn_171 ⟨Nat.le_refl _, Nat.le_refl _⟩ ?_
    refine h _ (h168.1.mono (fun z hz => by omega)) ?_
    exact regS_pl hreg hP e2 (by rw [e]; decide) (by rw [e]; decide) (by rw [e]; decide) (by rw [e]; decide) (by rw [e]; decide) h168
  · rw [e]
    refine a_tableOut 165 hX dX4_learn_18 (by decide) (by decide) ?_
    refine a_aload_n hX dX4_learn_165 rfl ?_
    refine a_aload_n hX dX4_learn_166 rfl ?_
    refine a_aload_n hX dX4_learn_167 rfl ?_
    refine a_callV [_, _] hX c_X4_learnOfPlace mi_X4_learnOfPlace mv_X4_learnOfPlace se_X4_learnOfPlace (klt hr (by decide)) (adr_lt (kd_lt hr (by decide))) (cell_4 hr) rfl li_X4_70 (by decide) rfl rfl (Nat.le_of_ble_eq_true rfl) (fun q => q) dX4_learn_168 ⟨_, _, _, rfl, hr, (K4_f hr hP), hi, ⟨⟨j, hj, e3⟩, Or.inr ⟨e, z, hz, e4⟩⟩, ?_⟩
    intro w168 h168
    refine a_vret hX hR dX4_learn_171 ⟨Nat.le_refl _, Nat.le_refl _⟩ ?_
    refine h _ (h168.1.mono (fun z hz => by omega)) ?_
    exact regS_pl hreg hP e2 (by rw [e]; decide) (by rw [e]; decide) (by rw [e]; decide) (by rw [e]; decide) (by rw [e]; decide) h168
  · rw [e]
    refine a_tableIn (off := 42) 60 hX dX4_learn_18 (by decide) (by decide) (by decide) (by decide) ?_
    refine a_aload_n hX dX4_learn_60 rfl ?_
    refine a_aload_n hX dX4_learn_61 rfl ?_
    refine gf_X4_42 hi hX dX4_learn_62 ?_
    refine a_aload_n hX dX4_learn_65 rfl ?_
    refine gf_X4_45 hi hX dX4_learn_66 ?_
    refine a_if_eq 76 hX dX4_learn_69 (by decide) (fun c_69 => ?_) (fun c_69 => ?_)
    · refine a_iconst (0) hX dX4_learn_76 (by decide) ?_
      refine a_aload_n hX dX4_learn_77 rfl ?_
      refine gf_X4_48 hi hX dX4_learn_78 ?_
      rw [e3]
      refine a_callV [_, _, _] hX c_X1_setRow mi_X1_setRow mv_X1_setRow se_X1_setRow (klt (K4_f hr hP) (by decide)) (adr_lt (kd_lt (K4_f hr hP) (by decide))) (cell_1 (K4_f hr hP)) rfl li_X4_51 (by decide) rfl rfl (Nat.le_of_ble_eq_true rfl) (fun q => q) dX4_learn_81 ⟨_, _, _, _, rfl, (K4_f hr hP), hM, ?_⟩
      intro w81 h81
      refine a_goto 171 hX dX4_learn_84 (by decide) ?_
      refine a_vret hX hR dX4_learn_171 ⟨Nat.le_refl _, Nat.le_refl _⟩ ?_
      refine h _ ?_ ?_
      · subst h81
        repeat (refine Fr.set ?_ (by omega))
        exact Fr.rf
      · exact regS_mo hreg hP e e2 hM e3 hn e5 (by rw [h81]; simp [c_69])
    · refine a_iconst (1) hX dX4_learn_72 (by decide) ?_
      refine a_goto 77 hX dX4_learn_73 (by decide) ?_
      refine a_aload_n hX dX4_learn_77 rfl ?_
      refine gf_X4_48 hi hX dX4_learn_78 ?_
      rw [e3]
      refine a_callV [_, _, _] hX c_X1_setRow mi_X1_setRow mv_X1_setRow se_X1_setRow (klt (K4_f hr hP) (by decide)) (adr_lt (kd_lt (K4_f hr hP) (by decide))) (cell_1 (K4_f hr hP)) rfl li_X4_51 (by decide) rfl rfl (Nat.le_of_ble_eq_true rfl) (fun q => q) dX4_learn_81 ⟨_, _, _, _, rfl, (K4_f hr hP), hM, ?_⟩
      intro w81 h81
      refine a_goto 171 hX dX4_learn_84 (by decide) ?_
      refine a_vret hX hR dX4_learn_171 ⟨Nat.le_refl _, Nat.le_refl _⟩ ?_
      refine h _ ?_ ?_
      · subst h81
        repeat (refine Fr.set ?_ (by omega))
        exact Fr.rf
      · exact regS_mo hreg hP e e2 hM e3 hn e5 (by rw [h81]; simp [c_69])
  · rw [e]
    refine a_tableIn (off := 69) 87 hX dX4_learn_18 (by decide) (by decide) (by decide) (by decide) ?_
    refine a_aload_n hX dX4_learn_87 rfl ?_
    refine a_aload_n hX dX4_learn_88 rfl ?_
    refine gf_X4_42 hi hX dX4_learn_89 ?_
    refine a_aload_n hX dX4_learn_92 rfl ?_
    refine gf_X4_45 hi hX dX4_learn_93 ?_
    refine a_aload_n hX dX4_learn_96 rfl ?_
    refine gf_X4_48 hi hX dX4_learn_97 ?_
    refine a_if_eq 107 hX dX4_learn_100 (by decide) (fun c_100 => ?_) (fun c_100 => ?_)
    · refine a_iconst (0) hX dX4_learn_107 (by decide) ?_
      rw [e3, e4]
      refine a_callV [_, _, _] hX c_X1_setDay mi_X1_setDay mv_X1_setDay se_X1_setDay (klt (K4_f hr hP) (by decide)) (adr_lt (kd_lt (K4_f hr hP) (by decide))) (cell_1 (K4_f hr hP)) rfl li_X4_55 (by decide) rfl rfl (Nat.le_of_ble_eq_true rfl) (fun q => q) dX4_learn_108 ⟨_, _, _, _, rfl, (K4_f hr hP), hM, hq, ?_⟩
      intro w108 h108
      refine a_goto 171 hX dX4_learn_111 (by decide) ?_
      refine a_vret hX hR dX4_learn_171 ⟨Nat.le_refl _, Nat.le_refl _⟩ ?_
      refine h _ ?_ ?_
      · subst h108
        repeat (refine Fr.set ?_ (by omega))
        exact Fr.rf
      · exact regS_da hreg hP e e2 hM e3 hq e4 hql (by rw [h108]; simp [c_100])
    · refine a_iconst (1) hX dX4_learn_103 (by decide) ?_
      refine a_goto 108 hX dX4_learn_104 (by decide) ?_
      rw [e3, e4]
      refine a_callV [_, _, _] hX c_X1_setDay mi_X1_setDay mv_X1_setDay se_X1_setDay (klt (K4_f hr hP) (by decide)) (adr_lt (kd_lt (K4_f hr hP) (by decide))) (cell_1 (K4_f hr hP)) rfl li_X4_55 (by decide) rfl rfl (Nat.le_of_ble_eq_true rfl) (fun q => q) dX4_learn_108 ⟨_, _, _, _, rfl, (K4_f hr hP), hM, hq, ?_⟩
      intro w108 h108
      refine a_goto 171 hX dX4_learn_111 (by decide) ?_
      refine a_vret hX hR dX4_learn_171 ⟨Nat.le_refl _, Nat.le_refl _⟩ ?_
      refine h _ ?_ ?_
      · subst h108
        repeat (refine Fr.set ?_ (by omega))
        exact Fr.rf
      · exact regS_da hreg hP e e2 hM e3 hq e4 hql (by rw [h108]; simp [c_100])
  · rw [e]
    refine a_tableIn (off := 96) 114 hX dX4_learn_18 (by decide) (by decide) (by decide) (by decide) ?_
    refine a_aload_n hX dX4_learn_114 rfl ?_
    refine a_aload_n hX dX4_learn_115 rfl ?_
    refine gf_X4_42 hi hX dX4_learn_116 ?_
    rw [e3]
    refine a_callV [_] hX c_X1_setTorn mi_X1_setTorn mv_X1_setTorn se_X1_setTorn (klt (K4_f hr hP) (by decide)) (adr_lt (kd_lt (K4_f hr hP) (by decide))) (cell_1 (K4_f hr hP)) rfl li_X4_59 (by decide) rfl rfl (Nat.le_of_ble_eq_true rfl) (fun q => q) dX4_learn_119 ⟨_, _, rfl, (K4_f hr hP), hM, ?_⟩
    intro w119 h119
    refine a_goto 171 hX dX4_learn_122 (by decide) ?_
    refine a_vret hX hR dX4_learn_171 ⟨Nat.le_refl _, Nat.le_refl _⟩ ?_
    refine h _ ?_ ?_
    · subst h119
      repeat (refine Fr.set ?_ (by omega))
      exact Fr.rf
    · exact regS_to hreg hP e e2 hM e3 h119
  · rw [e]
    refine a_tableIn (off := 107) 125 hX dX4_learn_18 (by decide) (by decide) (by decide) (by decide) ?_
    refine a_aload_n hX dX4_learn_125 rfl ?_
    refine a_aload_n hX dX4_learn_126 rfl ?_
    refine gf_X4_45 hi hX dX4_learn_127 ?_
    refine a_callV [_] hX c_X4_fileOf mi_X4_fileOf mv_X4_fileOf se_X4_fileOf (klt hr (by decide)) (adr_lt (kd_lt hr (by decide))) (cell_4 hr) rfl li_X4_29 (by decide) rfl rfl (Nat.le_of_ble_eq_true rfl) (fun q => q) dX4_learn_130 ⟨_, _, rfl, hr, Or.inl ⟨Q, hQ, e4, ?_⟩⟩
    refine a_astore_n (ls' := [_, _, _, _]) hX dX4_learn_133 (Nat.le_of_ble_eq_true rfl) rfl ?_
    refine a_aload_n hX dX4_learn_134 rfl ?_
    refine a_ifnull hX dX4_learn_135 ?_
    refine a_aload_n hX dX4_learn_138 rfl ?_
    refine a_aload_n hX dX4_learn_139 rfl ?_
    refine a_aload_n hX dX4_learn_140 rfl ?_
    refine gf_X4_42 hi hX dX4_learn_141 ?_
    refine a_aload_n hX dX4_learn_144 rfl ?_
    refine gf_X4_48 hi hX dX4_learn_145 ?_
    rw [e3, e5]
    refine a_callV [_, _, _] hX c_X1_copyRow mi_X1_copyRow mv_X1_copyRow se_X1_copyRow (klt (K4_f hr hQ) (by decide)) (adr_lt (kd_lt (K4_f hr hQ) (by decide))) (cell_1 (K4_f hr hQ)) rfl li_X4_63 (by decide) rfl rfl (Nat.le_of_ble_eq_true rfl) (fun q => q) dX4_learn_148 ⟨_, _, _, _, rfl, (K4_f hr hQ), (K4_f hr hP), hM, hT, ?_⟩
    intro w148 h148
    refine a_goto 171 hX dX4_learn_151 (by decide) ?_
    refine a_vret hX hR dX4_learn_171 ⟨Nat.le_refl _, Nat.le_refl _⟩ ?_
    refine h _ (h148.1.mono (fun z hz => by omega)) ?_
    exact regS_cp hreg hP e e2 hM e3 hQ e4 hT e5 h148.1 h148.2.1 h148.2.2.1 h148.2.2.2
  · rw [e]
    refine a_tableIn (off := 136) 154 hX dX4_learn_18 (by decide) (by decide) (by decide) (by decide) ?_
    refine a_aload_n hX dX4_learn_154 rfl ?_
    refine a_aload_n hX dX4_learn_155 rfl ?_
    refine gf_X4_42 hi hX dX4_learn_156 ?_
    refine pf_X4_67 (K4_f hr hP) hX dX4_learn_159 ?_
    refine a_goto 171 hX dX4_learn_162 (by decide) ?_
    refine a_vret hX hR dX4_learn_171 ⟨Nat.le_refl _, Nat.le_refl _⟩ ?_
    refine h _ (Fr.set Fr.rf (by omega)) ?_
    exact regS_gr hreg hP e e2 rfl
theorem wipF_S {w w' : St} {q P : Nat} (h : wipF w w' q) : FileS w' q RS0 P := by
  obtain ⟨-, a, b, c⟩ := h
  refine ⟨fun i hi k hk => a i hi k hk, fun M hM => ?_, c⟩
  obtain ⟨b1, b2, b3⟩ := b M hM
  exact ⟨b1, b2, by rw [b3]; exact BW.zero (fun k hk => by simp [RS0])⟩
theorem FileS.fr {w w' : St} {q P : Nat} {S : RS} {T : Nat → Prop} (h : FileS w q S P) (hf : Fr w w' T) (hT : ∀ z, q ≤ z → z < q + 17 → ¬ T z) : FileS w' q S P := h.kept (fun z h1 h2 => hf.2 z (hT z h1 h2)) rfl rfl rfl rfl
theorem RegS.fr {w w' : St} {r : Nat} {S : RS} {T : Nat → Prop} (h : RegS w r S) (hf : Fr w w' T) (hT : ∀ z, r + 2 ≤ z → z < r + 104 → ¬ T z) : RegS w' r S := fun P hP => (h P hP).fr hf (fun z h1 h2 => hT z (by omega) (by omega))
def lg (w : St) : Nat → Nat → Int32 := fun i => w.1 (248 + i)
theorem lg_fr {w w' : St} {T : Nat → Prop} (hf : Fr w w' T) (hT : ∀ z, T z → z < 248) : lg w' = lg w := by
  funext i
  exact hf.2 _ (fun h => by have := hT _ h; omega)
abbrev T_X4_wipe : Tr := fun lay av w Po => ∃ (r : Nat), av = [.ref (lay r)] ∧ (kd r = 4) ∧ ∀ w' : St, Fr w w' (fun z => r ≤ z ∧ z < r + 104) → RegS w' r RS0 → w'.1 r 1 = 0 → Po none w'
set_option maxRecDepth 100000 in
set_option maxHeartbeats 4000000 in
theorem c_X4_wipe : Ct yX4_wipe cX4_wipe 3 none 3 0 0 T_X4_wipe := by
  refine Ct.mk (by decide +kernel) ?_
  intro X av w Po hX hR hT
  obtain ⟨r, rfl, hr, h⟩ := hT
  refine ⟨rfl, ?_⟩
  show A X 0 0 0 [some (.ref (xlay X r)), none, none] [] w
  refine a_iconst (0) hX dX4_wipe_0 (by decide) ?_
  refine a_istore_n (ls' := [_, _, _]) hX dX4_wipe_1 (Nat.le_of_ble_eq_true rfl) rfl ?_
  have L2 : ∀ (fu : Nat) (i : Nat) (w2 : St) (y : Option Value), 6 - i < fu → (i ≤ 6) → (Fr w w2 (fun z => r ≤ z ∧ z < r + 104)) → (∀ P, P < i → FileS w2 (r + 1 + 1 + 17 * P) RS0 P) → A X 0 0 2 [some (.ref (xlay X r)), some (.int (nI i)), y] [] w2 := by
    intro fu
    induction fu with
    | zero => intro i w2 y hmu; exact absurd hmu (Nat.not_lt_zero _)
    | succ fu ih =>
      intro i w2 y hmu hi hf2 hs
      refine a_iload_n hX dX4_wipe_2 rfl ?_
      refine a_bipush (6) hX dX4_wipe_3 (by decide) ?_
      refine a_icmp_ge 28 hX dX4_wipe_5 (by decide) (fun c_5 => ?_) (fun c_5 => ?_)
      · refine a_aload_n hX dX4_wipe_28 rfl ?_
        refine a_iconst (0) hX dX4_wipe_29 (by decide) ?_
        refine pf_X4_17 hr hX dX4_wipe_30 ?_
        refine a_vret hX hR dX4_wipe_33 ⟨Nat.le_refl _, Nat.le_refl _⟩ ?_
        have hi6 : i = 6 := by
            have := le_of_c (b := 6) c_5 (by omega) (by omega)
            omega
        subst hi6
        refine h _ (Fr.set hf2 (by omega)) (fun P hP => ?_) ?_
        · exact (hs P hP).fr (Fr.set (S := fun z => z = r) Fr.rf rfl) (fun z h1 h2 => by omega)
        · rw [wset_1]; simp
      · have hi6 : i < 6 := lt_of_c (b := 6) c_5 (by omega) (by omega)
        refine a_aload_n hX dX4_wipe_8 rfl ?_
        refine a_iload_n hX dX4_wipe_9 rfl ?_
        refine a_callV [_] hX c_X4_fileOf mi_X4_fileOf mv_X4_fileOf se_X4_fileOf (klt hr (by decide)) (adr_lt (kd_lt hr (by decide))) (cell_4 hr) rfl li_X4_29 (by decide) rfl rfl (Nat.le_of_ble_eq_true rfl) (fun q => q) dX4_wipe_10 ⟨_, _, rfl, hr, Or.inl ⟨i, hi6, rfl, ?_⟩⟩
        refine a_astore_n (ls' := [_, _, _]) hX dX4_wipe_13 (Nat.le_of_ble_eq_true rfl) rfl ?_
        refine a_aload_n hX dX4_wipe_14 rfl ?_
        refine a_ifnull hX dX4_wipe_15 ?_
        refine a_aload_n hX dX4_wipe_18 rfl ?_
        refine a_callV [] hX c_X1_wipe mi_X1_wipe mv_X1_wipe se_X1_wipe (klt (K4_f hr hi6) (by decide)) (adr_lt (kd_lt (K4_f hr hi6) (by decide))) (cell_1 (K4_f hr hi6)) rfl li_X4_33 (by decide) rfl rfl (Nat.le_of_ble_eq_true rfl) (fun q => q) dX4_wipe_19 ⟨_, rfl, (K4_f hr hi6), ?_⟩
        intro w19 h19
        refine a_iinc (ls' := [_, _, _]) (nI (i + 1)) hX dX4_wipe_22 rfl (nI_i1 i) rfl ?_
        refine a_goto 2 hX dX4_wipe_25 (by decide) ?_
        exact ih (i + 1) _ _ (by omega) (by omega) (hf2.tr (h19.1.mono (fun z hz => by omega))) (fun P hP => by
            by_cases e : P = i
            · subst e
              exact wipF_S h19
            · exact (hs P (by omega)).fr h19.1 (fun z h1 h2 => by omega))
  exact L2 7 0 w none (by omega) (by omega) Fr.rf (fun P hP => by omega)
abbrev T_X4_learnUpTo : Tr := fun lay av w Po => ∃ (r n m : Nat), av = [.ref (lay r), .ref (lay 1), .int (nI n)] ∧ (kd r = 4) ∧ (n ≤ w.2.1) ∧ (n ≤ 400) ∧ (w.2.1 ≤ w.2.2.1) ∧ (m ≤ 400) ∧ (w.1 r 1 = nI m) ∧ (RegS w r (rpl (lg w) m)) ∧ (∀ i, i < n → vE (lg w i) (rpl (lg w) i)) ∧ ∀ w' : St, Fr w w' (fun z => r ≤ z ∧ z < r + 104) → RegS w' r (rpl (lg w) n) → w'.1 r 1 = nI n → Po none w'
set_option maxRecDepth 100000 in
set_option maxHeartbeats 4000000 in
theorem c_X4_learnUpTo : Ct yX4_learnUpTo cX4_learnUpTo 4 none 4 0 0 T_X4_learnUpTo := by
  refine Ct.mk (by decide +kernel) ?_
  intro X av w Po hX hR hT
  obtain ⟨r, n, m, rfl, hr, hn, hn4, hnn, hm4, hm, hreg, hv, h⟩ := hT
  refine ⟨rfl, ?_⟩
  show A X 0 0 0 [some (.ref (xlay X r)), some (.ref (xlay X 1)), some (.int (nI n)), none] [] w
  have J12 : ∀ (m1 : Nat) (w1 : St), (m1 ≤ n) → (Fr w w1 (fun z => r ≤ z ∧ z < r + 104)) → (RegS w1 r (rpl (lg w) m1)) → (w1.1 r 1 = nI m1) → A X 0 0 12 [some (.ref (xlay X r)), some (.ref (xlay X 1)), some (.int (nI n)), none] [] w1 := by
    intro m1 w1 hm1 hf1 hr1 hl1
    refine a_aload_n hX dX4_learnUpTo_12 rfl ?_
    refine gf_X4_17 hr hX dX4_learnUpTo_13 ?_
    rw [hl1]
    refine a_istore_n (ls' := [_, _, _, _]) hX dX4_learnUpTo_16 (Nat.le_of_ble_eq_true rfl) rfl ?_
    have L17 : ∀ (fu : Nat) (i : Nat) (w2 : St), n - i < fu → (i ≤ n) → (Fr w w2 (fun z => r ≤ z ∧ z < r + 104)) → (RegS w2 r (rpl (lg w) i)) → A X 0 0 17 [some (.ref (xlay X r)), some (.ref (xlay X 1)), some (.int (nI n)), some (.int (nI i))] [] w2 := by
      intro fu
      induction fu with
      | zero => intro i w2 hmu; exact absurd hmu (Nat.not_lt_zero _)
      | succ fu ih =>
        intro i w2 hmu hi hf2 hr2
        refine a_iload_n hX dX4_learnUpTo_17 rfl ?_
        refine a_iload_n hX dX4_learnUpTo_18 rfl ?_
        refine a_icmp_ge 47 hX dX4_learnUpTo_19 (by decide) (fun c_19 => ?_) (fun c_19 => ?_)
        · refine a_aload_n hX dX4_learnUpTo_47 rfl ?_
          refine a_iload_n hX dX4_learnUpTo_48 rfl ?_
          refine pf_X4_17 hr hX dX4_learnUpTo_49 ?_
          refine a_vret hX hR dX4_learnUpTo_52 ⟨Nat.le_refl _, Nat.le_refl _⟩ ?_
          have hin : i = n := by
              rcases Nat.lt_or_ge i n with q | q
              · exact absurd (nI_lt q (by omega)) (Int32.not_lt.mpr c_19)
              · omega
          subst hin
          refine h _ (Fr.set hf2 (by omega)) ?_ ?_
          · exact hr2.fr (Fr.set (S := fun z => z = r) Fr.rf rfl) (fun z h1 h2 => by omega)
          · rw [wset_1]; simp
        · have hin : i < n := lt_of_c c_19 (by omega) (by omega)
          have hle : lg w2 i = lg w i := by rw [lg_fr hf2 (fun z hz => by have := kd4_cs hr; omega)]
          refine a_iload_n hX dX4_learnUpTo_22 rfl ?_
          refine a_aload_n hX dX4_learnUpTo_23 rfl ?_
          refine a_llen hX dX4_learnUpTo_24 ?_
          refine a_icmp_ge 47 hX dX4_learnUpTo_25 (by decide) (fun c_25 => ?_) (fun c_25 => ?_)
          · exact absurd (in_rng (show i < 400 by omega) (by decide)).2 (Int32.not_lt.mpr c_25)
          · refine a_aload_n hX dX4_learnUpTo_28 rfl ?_
            refine a_iload_n hX dX4_learnUpTo_29 rfl ?_
            refine a_ald_log (i) hX rfl (show _ < 400 by omega) (by rw [hf2.1]; omega) dX4_learnUpTo_30 ?_
            refine a_ifnull hX dX4_learnUpTo_31 ?_
            refine a_aload_n hX dX4_learnUpTo_34 rfl ?_
            refine a_aload_n hX dX4_learnUpTo_35 rfl ?_
            refine a_iload_n hX dX4_learnUpTo_36 rfl ?_
            refine a_ald_log (i) hX rfl (show _ < 400 by omega) (by rw [hf2.1]; omega) dX4_learnUpTo_37 ?_
            refine a_callV [_] hX c_X4_learn mi_X4_learn mv_X4_learn se_X4_learn (klt hr (by decide)) (adr_lt (kd_lt hr (by decide))) (cell_4 hr) rfl li_X4_25 (by decide) rfl rfl (Nat.le_of_ble_eq_true rfl) (fun q => q) dX4_learnUpTo_38 ⟨_, _, _, rfl, hr, (by rw [hf2.1]; omega), hr2, (by have := hv i hin; rw [← hle] at this; exact this), ?_⟩
            intro w38 h38 hr38
            refine a_iinc (ls' := [_, _, _, _]) (nI (i + 1)) hX dX4_learnUpTo_41 rfl (nI_i1 i) rfl ?_
            refine a_goto 17 hX dX4_learnUpTo_44 (by decide) ?_
            exact ih (i + 1) _ (by omega) (by omega) (hf2.tr (h38.mono (fun z hz => by omega))) (by rw [rpl_succ, ← hle]; exact hr38)
    exact L17 (n + 1) m1 w1 (by omega) hm1 hf1 hr1
  refine a_aload_n hX dX4_learnUpTo_0 rfl ?_
  refine gf_X4_17 hr hX dX4_learnUpTo_1 ?_
  refine a_iload_n hX dX4_learnUpTo_4 rfl ?_
  refine a_icmp_le 12 hX dX4_learnUpTo_5 (by decide) (fun c_5 => ?_) (fun c_5 => ?_)
  · exact J12 m w (le_of_c (by rw [hm] at c_5; exact c_5) (by omega) (by omega)) Fr.rf hreg hm
  · refine a_aload_n hX dX4_learnUpTo_8 rfl ?_
    refine a_callV [] hX c_X4_wipe mi_X4_wipe mv_X4_wipe se_X4_wipe (klt hr (by decide)) (adr_lt (kd_lt hr (by decide))) (cell_4 hr) rfl li_X4_22 (by decide) rfl rfl (Nat.le_of_ble_eq_true rfl) (fun q => q) dX4_learnUpTo_9 ⟨_, rfl, hr, ?_⟩
    intro w9 h9 hr9 hl9
    exact J12 0 w9 (by omega) h9 hr9 hl9
