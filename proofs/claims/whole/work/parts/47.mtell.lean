/-! the reference: what is told -/
theorem kn_all {g : Sg} (ho : okS g) : kn (gL g) (gt g) (gn g) = gn g := by
  cases hn : gn g with
  | zero => rfl
  | succ n =>
    unfold kn
    obtain ⟨d, hd, e⟩ := (ho.2.2.2.1 n (by omega)).1
    have := ho.1.2.2
    rw [if_pos (by rw [e, ix_nI (by omega)]; exact hd)]
theorem room_cs (g : Sg) (p l : Int32) : roomS g p l = 0 ∨ roomS g p l = 1 ∨ roomS g p l = 2 := by
  unfold roomS
  split
  · split <;> simp
  · simp
theorem room_le {g : Sg} {p l : Int32} : roomS g p l ≤ 0 ↔ roomS g p l = 0 := by
  rcases room_cs g p l with h | h | h <;> rw [h] <;> decide
theorem isS4 (s : Int32) : s ≤ 4095 ↔ s < 4096 := by
  rw [Int32.le_iff_toInt_le, Int32.lt_iff_toInt_lt]
  have e1 : (4095 : Int32).toInt = 4095 := rfl
  have e2 : (4096 : Int32).toInt = 4096 := rfl
  omega
theorem fin_o8 {g : Sg} {w0 w : St} {v : Int32} {F : Int32 × Sg} {Po : Option Value → St → Prop} (h : ∀ w' : St, MD F.2 w' → FrC w0 w' → Po (some (.int F.1)) w') (e : F = (v, g)) (hC : MD g w) (hm : FrC w0 w) : Po (some (.int v)) w := by
  have h9 := h w (by rw [e]; exact hC) hm
  rw [e] at h9
  exact h9
theorem fin_g8 {w0 w : St} {F G : Int32 × Sg} {Po : Option Value → St → Prop} (h : ∀ w' : St, MD F.2 w' → FrC w0 w' → Po (some (.int F.1)) w') (e : F = G) (hC : MD G.2 w) (hm : FrC w0 w) : Po (some (.int G.1)) w := by
  subst e
  exact h w hC hm
theorem MD.put {g : Sg} {w : St} {p t : Nat} {a : Int32} {j : Nat} {v : Int32} (h : MD g w) (h0 : upd (w.1 221) j v 0 = nI t) (h1 : upd (w.1 221) j v 1 = a) (h2 : upd (w.1 221) j v 2 = nI p) (h5 : j ≠ 5) (h32 : j ≠ 32) : MD (gL g, gn g, p, t, a, gr g, gq g) (wset w 221 j v) := by
  obtain ⟨⟨a0, a1, a2, a3⟩, b, c, d, e⟩ := h
  refine ⟨⟨by rw [wset_row]; exact h0, by rw [wset_row]; exact h1, by rw [wset_row]; exact h2, ?_⟩, by rw [wset_ne _ _ _ _ (by decide)]; exact b, by rw [wset_ne _ _ _ _ (by decide)]; exact c, ?_, by rw [wset_ne _ _ _ _ (by decide)]; exact e⟩
  · rw [wset_1, if_neg (by omega)]; exact a3
  · rw [wset_1, if_neg (by omega)]; exact d
theorem FrC.f {w : St} {j : Nat} {v : Int32} : FrC w (wset w 221 j v) := FrC.rf.set (by decide) (by decide)
theorem isL_nI' {j : Nat} (hj : j < 12) : isL (nI j) := in_rng hj (by decide)
theorem MPl.pl {w : St} {PP : Nat → Nat → Int32} (h : MPl w PP) {i : Nat} (hi : i < 12) : w.1 224 i = PP i 0 ∧ w.1 232 i = PP i 5 ∧ w.1 231 i = PP i 8 := ⟨(h i hi).1, (h i hi).2.2.2.2.2.1, (h i hi).2.2.2.2.1⟩
theorem MMc.row {w : St} {S : RS} {Q M : Nat} (h : MMc w S Q M) (hm : moOK S) (hQ : Q < 6) (hM : M < 120) : (w.1 233 (120 * Q + M) = 1 ↔ (S.2.1 Q M 0 = 1 ∨ S.2.1 Q M 0 = 2)) := by
  rw [h.1]
  rcases (hm Q hQ M hM).1 with e | e | e | e <;> rw [e] <;> decide
abbrev T_X8_isPlace : Tr := fun lay av w Po => ∃ (a : Int32), av = [.int a] ∧ Po (some (.int (bI (0 ≤ a ∧ a < 12)))) w
set_option maxRecDepth 100000 in
set_option maxHeartbeats 4000000 in
theorem c_X8_isPlace : Ct yX8_isPlace cX8_isPlace 1 (some .boolean) 0 0 0 T_X8_isPlace := by
  refine Ct.mk (by decide +kernel) ?_
  intro X av w Po hX hR hT
  obtain ⟨a, rfl, h⟩ := hT
  refine ⟨rfl, ?_⟩
  show A X 0 0 0 [some (.int a)] [] w
  refine a_iload_n hX dX8_isPlace_0 rfl ?_
  refine a_if_lt 14 hX dX8_isPlace_1 (by decide) (fun c_1 => ?_) (fun c_1 => ?_)
  · refine a_iconst (0) hX dX8_isPlace_14 (by decide) ?_
    refine a_iret hX hR dX8_isPlace_15 ⟨Nat.le_refl _, Nat.le_refl _⟩ rfl ?_
    exact po_int h (by grind [bI])
  · refine a_iload_n hX dX8_isPlace_4 rfl ?_
    refine a_bipush (12) hX dX8_isPlace_5 (by decide) ?_
    refine a_icmp_ge 14 hX dX8_isPlace_7 (by decide) (fun c_7 => ?_) (fun c_7 => ?_)
    · refine a_iconst (0) hX dX8_isPlace_14 (by decide) ?_
      refine a_iret hX hR dX8_isPlace_15 ⟨Nat.le_refl _, Nat.le_refl _⟩ rfl ?_
      exact po_int h (by grind [bI])
    · refine a_iconst (1) hX dX8_isPlace_10 (by decide) ?_
      refine a_goto 15 hX dX8_isPlace_11 (by decide) ?_
      refine a_iret hX hR dX8_isPlace_15 ⟨Nat.le_refl _, Nat.le_refl _⟩ rfl ?_
      exact po_int h (by grind [bI])
abbrev T_X8_isDay : Tr := fun lay av w Po => ∃ (a : Int32), av = [.int a] ∧ Po (some (.int (bI (0 ≤ a ∧ a < 3600)))) w
set_option maxRecDepth 100000 in
set_option maxHeartbeats 4000000 in
theorem c_X8_isDay : Ct yX8_isDay cX8_isDay 1 (some .boolean) 0 0 0 T_X8_isDay := by
  refine Ct.mk (by decide +kernel) ?_
  intro X av w Po hX hR hT
  obtain ⟨a, rfl, h⟩ := hT
  refine ⟨rfl, ?_⟩
  show A X 0 0 0 [some (.int a)] [] w
  refine a_iload_n hX dX8_isDay_0 rfl ?_
  refine a_if_lt 15 hX dX8_isDay_1 (by decide) (fun c_1 => ?_) (fun c_1 => ?_)
  · refine a_iconst (0) hX dX8_isDay_15 (by decide) ?_
    refine a_iret hX hR dX8_isDay_16 ⟨Nat.le_refl _, Nat.le_refl _⟩ rfl ?_
    exact po_int h (by grind [bI])
  · refine a_iload_n hX dX8_isDay_4 rfl ?_
    refine a_sipush (3600) hX dX8_isDay_5 (by decide) ?_
    refine a_icmp_ge 15 hX dX8_isDay_8 (by decide) (fun c_8 => ?_) (fun c_8 => ?_)
    · refine a_iconst (0) hX dX8_isDay_15 (by decide) ?_
      refine a_iret hX hR dX8_isDay_16 ⟨Nat.le_refl _, Nat.le_refl _⟩ rfl ?_
      exact po_int h (by grind [bI])
    · refine a_iconst (1) hX dX8_isDay_11 (by decide) ?_
      refine a_goto 16 hX dX8_isDay_12 (by decide) ?_
      refine a_iret hX hR dX8_isDay_16 ⟨Nat.le_refl _, Nat.le_refl _⟩ rfl ?_
      exact po_int h (by grind [bI])
abbrev T_X8_isMonth : Tr := fun lay av w Po => ∃ (a : Int32), av = [.int a] ∧ Po (some (.int (bI (0 ≤ a ∧ a < 120)))) w
set_option maxRecDepth 100000 in
set_option maxHeartbeats 4000000 in
theorem c_X8_isMonth : Ct yX8_isMonth cX8_isMonth 1 (some .boolean) 0 0 0 T_X8_isMonth := by
  refine Ct.mk (by decide +kernel) ?_
  intro X av w Po hX hR hT
  obtain ⟨a, rfl, h⟩ := hT
  refine ⟨rfl, ?_⟩
  show A X 0 0 0 [some (.int a)] [] w
  refine a_iload_n hX dX8_isMonth_0 rfl ?_
  refine a_if_lt 14 hX dX8_isMonth_1 (by decide) (fun c_1 => ?_) (fun c_1 => ?_)
  · refine a_iconst (0) hX dX8_isMonth_14 (by decide) ?_
    refine a_iret hX hR dX8_isMonth_15 ⟨Nat.le_refl _, Nat.le_refl _⟩ rfl ?_
    exact po_int h (by grind [bI])
  · refine a_iload_n hX dX8_isMonth_4 rfl ?_
    refine a_bipush (120) hX dX8_isMonth_5 (by decide) ?_
    refine a_icmp_ge 14 hX dX8_isMonth_7 (by decide) (fun c_7 => ?_) (fun c_7 => ?_)
    · refine a_iconst (0) hX dX8_isMonth_14 (by decide) ?_
      refine a_iret hX hR dX8_isMonth_15 ⟨Nat.le_refl _, Nat.le_refl _⟩ rfl ?_
      exact po_int h (by grind [bI])
    · refine a_iconst (1) hX dX8_isMonth_10 (by decide) ?_
      refine a_goto 15 hX dX8_isMonth_11 (by decide) ?_
      refine a_iret hX hR dX8_isMonth_15 ⟨Nat.le_refl _, Nat.le_refl _⟩ rfl ?_
      exact po_int h (by grind [bI])
abbrev T_X8_isTerm : Tr := fun lay av w Po => ∃ (f n : Int32), av = [.int f, .int n] ∧ Po (some (.int (bI (isT f n)))) w
set_option maxRecDepth 100000 in
set_option maxHeartbeats 4000000 in
theorem c_X8_isTerm : Ct yX8_isTerm cX8_isTerm 2 (some .boolean) 1 0 0 T_X8_isTerm := by
  refine Ct.mk (by decide +kernel) ?_
  intro X av w Po hX hR hT
  obtain ⟨f, n, rfl, h⟩ := hT
  refine ⟨rfl, ?_⟩
  show A X 0 0 0 [some (.int f), some (.int n)] [] w
  refine a_iload_n hX dX8_isTerm_0 rfl ?_
  refine a_callS [_] hX c_X8_isDay mi_X8_isDay ms_X8_isDay li_X8_163 (by decide) rfl rfl (Nat.le_of_ble_eq_true rfl) (fun q => q) dX8_isTerm_1 ⟨_, rfl, ?_⟩
  refine a_if_eq_b 23 hX dX8_isTerm_4 (by decide) (fun c_4 => ?_) (fun c_4 => ?_)
  · refine a_iconst (0) hX dX8_isTerm_23 (by decide) ?_
    refine a_iret hX hR dX8_isTerm_24 ⟨Nat.le_refl _, Nat.le_refl _⟩ rfl ?_
    exact po_int h (by first | exact bI_t ⟨c_4, by grind, by grind⟩ | exact bI_f (fun z => by grind))
  · refine a_iload_n hX dX8_isTerm_7 rfl ?_
    refine a_iconst (1) hX dX8_isTerm_8 (by decide) ?_
    refine a_icmp_lt 23 hX dX8_isTerm_9 (by decide) (fun c_9 => ?_) (fun c_9 => ?_)
    · refine a_iconst (0) hX dX8_isTerm_23 (by decide) ?_
      refine a_iret hX hR dX8_isTerm_24 ⟨Nat.le_refl _, Nat.le_refl _⟩ rfl ?_
      exact po_int h (by first | exact bI_t ⟨c_4, by grind, by grind⟩ | exact bI_f (fun z => by grind))
    · refine a_iload_n hX dX8_isTerm_12 rfl ?_
      refine a_sipush (3600) hX dX8_isTerm_13 (by decide) ?_
      refine a_icmp_gt 23 hX dX8_isTerm_16 (by decide) (fun c_16 => ?_) (fun c_16 => ?_)
      · refine a_iconst (0) hX dX8_isTerm_23 (by decide) ?_
        refine a_iret hX hR dX8_isTerm_24 ⟨Nat.le_refl _, Nat.le_refl _⟩ rfl ?_
        exact po_int h (by first | exact bI_t ⟨c_4, by grind, by grind⟩ | exact bI_f (fun z => by grind))
      · refine a_iconst (1) hX dX8_isTerm_19 (by decide) ?_
        refine a_goto 24 hX dX8_isTerm_20 (by decide) ?_
        refine a_iret hX hR dX8_isTerm_24 ⟨Nat.le_refl _, Nat.le_refl _⟩ rfl ?_
        exact po_int h (by first | exact bI_t ⟨c_4, by grind, by grind⟩ | exact bI_f (fun z => by grind))
abbrev T_X8_isPerson : Tr := fun lay av w Po => ∃ (a : Int32), av = [.ref (lay 221), .int a] ∧ Po (some (.int (bI (0 ≤ a ∧ a < w.1 221 2)))) w
set_option maxRecDepth 100000 in
set_option maxHeartbeats 4000000 in
theorem c_X8_isPerson : Ct yX8_isPerson cX8_isPerson 2 (some .boolean) 0 0 0 T_X8_isPerson := by
  refine Ct.mk (by decide +kernel) ?_
  intro X av w Po hX hR hT
  obtain ⟨a, rfl, h⟩ := hT
  refine ⟨rfl, ?_⟩
  show A X 0 0 0 [some (.ref (xlay X 221)), some (.int a)] [] w
  refine a_iload_n hX dX8_isPerson_0 rfl ?_
  refine a_if_lt 16 hX dX8_isPerson_1 (by decide) (fun c_1 => ?_) (fun c_1 => ?_)
  · refine a_iconst (0) hX dX8_isPerson_16 (by decide) ?_
    refine a_iret hX hR dX8_isPerson_17 ⟨Nat.le_refl _, Nat.le_refl _⟩ rfl ?_
    exact po_int h (by grind [bI])
  · refine a_iload_n hX dX8_isPerson_4 rfl ?_
    refine a_aload_n hX dX8_isPerson_5 rfl ?_
    refine gf_X8_94 rfl hX dX8_isPerson_6 ?_
    refine a_icmp_ge 16 hX dX8_isPerson_9 (by decide) (fun c_9 => ?_) (fun c_9 => ?_)
    · refine a_iconst (0) hX dX8_isPerson_16 (by decide) ?_
      refine a_iret hX hR dX8_isPerson_17 ⟨Nat.le_refl _, Nat.le_refl _⟩ rfl ?_
      exact po_int h (by grind [bI])
    · refine a_iconst (1) hX dX8_isPerson_12 (by decide) ?_
      refine a_goto 17 hX dX8_isPerson_13 (by decide) ?_
      refine a_iret hX hR dX8_isPerson_17 ⟨Nat.le_refl _, Nat.le_refl _⟩ rfl ?_
      exact po_int h (by grind [bI])
abbrev T_X8_isRuled : Tr := fun lay av w Po => ∃ (k : Nat), av = [.ref (lay 221), .int (nI k)] ∧ (k < 12) ∧ Po (some (.int (bI (((2 ≤ w.1 224 k ∧ w.1 224 k ≤ 5) ∧ w.1 232 k = -1) ∧ w.1 224 k ≠ 5)))) w
set_option maxRecDepth 100000 in
set_option maxHeartbeats 4000000 in
theorem c_X8_isRuled : Ct yX8_isRuled cX8_isRuled 2 (some .boolean) 2 0 0 T_X8_isRuled := by
  refine Ct.mk (by decide +kernel) ?_
  intro X av w Po hX hR hT
  obtain ⟨k, rfl, hk, h⟩ := hT
  refine ⟨rfl, ?_⟩
  show A X 0 0 0 [some (.ref (xlay X 221)), some (.int (nI k))] [] w
  refine a_aload_n hX dX8_isRuled_0 rfl ?_
  refine a_iload_n hX dX8_isRuled_1 rfl ?_
  refine a_callV [_] hX c_X8_isLive mi_X8_isLive mv_X8_isLive se_X8_isLive (klt rfl (by decide)) (adr_lt (kd_lt rfl (by decide))) (cell_8 rfl) rfl li_X8_121 (by decide) rfl rfl (Nat.le_of_ble_eq_true rfl) (fun q => q) dX8_isRuled_2 ⟨_, rfl, (by assumption), ?_⟩
  refine a_if_eq_b 22 hX dX8_isRuled_5 (by decide) (fun c_5 => ?_) (fun c_5 => ?_)
  · refine a_iconst (0) hX dX8_isRuled_22 (by decide) ?_
    refine a_iret hX hR dX8_isRuled_23 ⟨Nat.le_refl _, Nat.le_refl _⟩ rfl ?_
    exact po_int h (by grind [bI])
  · refine a_aload_n hX dX8_isRuled_8 rfl ?_
    refine gf_X8_20 rfl hX dX8_isRuled_9 ?_
    refine a_iload_n hX dX8_isRuled_12 rfl ?_
    refine a_iald (k) hX rfl rfl (show _ < 12 by omega) dX8_isRuled_13 ?_
    refine a_iconst (5) hX dX8_isRuled_14 (by decide) ?_
    refine a_icmp_eq 22 hX dX8_isRuled_15 (by decide) (fun c_15 => ?_) (fun c_15 => ?_)
    · refine a_iconst (0) hX dX8_isRuled_22 (by decide) ?_
      refine a_iret hX hR dX8_isRuled_23 ⟨Nat.le_refl _, Nat.le_refl _⟩ rfl ?_
      exact po_int h (by grind [bI])
    · refine a_iconst (1) hX dX8_isRuled_18 (by decide) ?_
      refine a_goto 23 hX dX8_isRuled_19 (by decide) ?_
      refine a_iret hX hR dX8_isRuled_23 ⟨Nat.le_refl _, Nat.le_refl _⟩ rfl ?_
      exact po_int h (by grind [bI])
abbrev T_X8_known : Tr := fun lay av w Po => ∃ (g : Sg), av = [.ref (lay 221)] ∧ (MD g w) ∧ (okS g) ∧ Po (some (.int (nI (daN g)))) w
set_option maxRecDepth 100000 in
set_option maxHeartbeats 4000000 in
theorem c_X8_known : Ct yX8_known cX8_known 1 (some .int) 0 0 0 T_X8_known := by
  refine Ct.mk (by decide +kernel) ?_
  intro X av w Po hX hR hT
  obtain ⟨g, rfl, hD, ho, h⟩ := hT
  refine ⟨rfl, ?_⟩
  show A X 0 0 0 [some (.ref (xlay X 221))] [] w
  refine a_aload_n hX dX8_known_0 rfl ?_
  refine gf_X8_9 rfl hX dX8_known_1 ?_
  refine a_iconst (-1) hX dX8_known_4 (by decide) ?_
  refine a_icmp_ne 15 hX dX8_known_5 (by decide) (fun c_5 => ?_) (fun c_5 => ?_)
  · refine a_aload_n hX dX8_known_15 rfl ?_
    refine gf_X8_9 rfl hX dX8_known_16 ?_
    refine a_iret hX hR dX8_known_19 ⟨Nat.le_refl _, Nat.le_refl _⟩ rfl ?_
    exact po_int h (by
      rw [← ho.da.2, ← hD.1.1, ← hD.1.2.1]
      grind)
  · refine a_aload_n hX dX8_known_8 rfl ?_
    refine gf_X8_97 rfl hX dX8_known_9 ?_
    refine a_goto 19 hX dX8_known_12 (by decide) ?_
    refine a_iret hX hR dX8_known_19 ⟨Nat.le_refl _, Nat.le_refl _⟩ rfl ?_
    exact po_int h (by
      rw [← ho.da.2, ← hD.1.1, ← hD.1.2.1]
      grind)
abbrev T_X8_comes : Tr := fun lay av w Po => ∃ (g : Sg) (c a b c4 d e f nd : Int32), av = [.ref (lay 221), .int c, .int a, .int b, .int c4, .int d, .int e, .int f] ∧ (MD g w) ∧ (okS g) ∧ (c = 12 → gn g < 400 → w.1 223 (gn g) = nd) ∧ ∀ w' : St, MD (coS g (en9 (nI (gt g)) c a b c4 d e f nd)).2 w' → FrC w w' → Po (some (.int (coS g (en9 (nI (gt g)) c a b c4 d e f nd)).1)) w'
set_option maxRecDepth 100000 in
set_option maxHeartbeats 4000000 in
theorem c_X8_comes : Ct yX8_comes cX8_comes 9 (some .int) 0 0 0 T_X8_comes := by
  refine Ct.mk (by decide +kernel) ?_
  intro X av w Po hX hR hT
  obtain ⟨g, c, a, b, c4, d, e, f, nd, rfl, hD, ho, hnd, h⟩ := hT
  refine ⟨rfl, ?_⟩
  show A X 0 0 0 [some (.ref (xlay X 221)), some (.int c), some (.int a), some (.int b), some (.int c4), some (.int d), some (.int e), some (.int f), none] [] w
  have hn4 := ho.1.1
  have hcc : nI (gn g) = 400 ↔ gn g = 400 := nI_eq (b := 400) (by omega) (by decide)
  refine a_aload_n hX dX8_comes_0 rfl ?_
  refine gf_X8_106 rfl hX dX8_comes_1 ?_
  refine a_sipush (400) hX dX8_comes_4 (by decide) ?_
  rw [hD.1.2.2.2]
  refine a_icmp_ne 13 hX dX8_comes_7 (by decide) (fun c_7 => ?_) (fun c_7 => ?_)
  · have hg4 : gn g < 400 := by have : gn g ≠ 400 := fun z => c_7 (hcc.mpr z); omega
    refine a_bipush (8) hX dX8_comes_13 (by decide) ?_
    refine a_aload_n hX dX8_comes_15 rfl ?_
    refine gf_X8_106 rfl hX dX8_comes_16 ?_
    rw [hD.1.2.2.2]
    refine a_imul hX dX8_comes_19 ?_
    rw [show (8 : Int32) * nI (gn g) = nI (8 * gn g) from pk_mul 8 _]
    refine a_istore (ls' := [_, _, _, _, _, _, _, _, _]) hX dX8_comes_20 (Nat.le_of_ble_eq_true rfl) rfl ?_
    refine a_aload_n hX dX8_comes_22 rfl ?_
    refine gf_X8_13 rfl hX dX8_comes_23 ?_
    refine a_iload hX dX8_comes_26 rfl ?_
    refine a_aload_n hX dX8_comes_28 rfl ?_
    refine gf_X8_97 rfl hX dX8_comes_29 ?_
    rw [hD.1.1]
    refine a_iast (8 * gn g + 0) hX rfl (by rw [Nat.add_zero]) (show _ < 3200 by omega) dX8_comes_32 ?_
    refine a_aload_n hX dX8_comes_33 rfl ?_
    refine gf_X8_13 rfl hX dX8_comes_34 ?_
    refine a_iload hX dX8_comes_37 rfl ?_
    refine a_iconst (1) hX dX8_comes_39 (by decide) ?_
    refine a_iadd hX dX8_comes_40 ?_
    refine a_iload_n hX dX8_comes_41 rfl ?_
    rw [show nI (8 * gn g) + 1 = nI (8 * gn g + 1) from nI_add _ 1]
    refine a_iast (8 * gn g + 1) hX rfl rfl (show _ < 3200 by omega) dX8_comes_42 ?_
    refine a_aload_n hX dX8_comes_43 rfl ?_
    refine gf_X8_13 rfl hX dX8_comes_44 ?_
    refine a_iload hX dX8_comes_47 rfl ?_
    refine a_iconst (2) hX dX8_comes_49 (by decide) ?_
    refine a_iadd hX dX8_comes_50 ?_
    refine a_iload_n hX dX8_comes_51 rfl ?_
    rw [show nI (8 * gn g) + 2 = nI (8 * gn g + 2) from nI_add _ 2]
    refine a_iast (8 * gn g + 2) hX rfl rfl (show _ < 3200 by omega) dX8_comes_52 ?_
    refine a_aload_n hX dX8_comes_53 rfl ?_
    refine gf_X8_13 rfl hX dX8_comes_54 ?_
    refine a_iload hX dX8_comes_57 rfl ?_
    refine a_iconst (3) hX dX8_comes_59 (by decide) ?_
    refine a_iadd hX dX8_comes_60 ?_
    refine a_iload_n hX dX8_comes_61 rfl ?_
    rw [show nI (8 * gn g) + 3 = nI (8 * gn g + 3) from nI_add _ 3]
    refine a_iast (8 * gn g + 3) hX rfl rfl (show _ < 3200 by omega) dX8_comes_62 ?_
    refine a_aload_n hX dX8_comes_63 rfl ?_
    refine gf_X8_13 rfl hX dX8_comes_64 ?_
    refine a_iload hX dX8_comes_67 rfl ?_
    refine a_iconst (4) hX dX8_comes_69 (by decide) ?_
    refine a_iadd hX dX8_comes_70 ?_
    refine a_iload hX dX8_comes_71 rfl ?_
    rw [show nI (8 * gn g) + 4 = nI (8 * gn g + 4) from nI_add _ 4]
    refine a_iast (8 * gn g + 4) hX rfl rfl (show _ < 3200 by omega) dX8_comes_73 ?_
    refine a_aload_n hX dX8_comes_74 rfl ?_
    refine gf_X8_13 rfl hX dX8_comes_75 ?_
    refine a_iload hX dX8_comes_78 rfl ?_
    refine a_iconst (5) hX dX8_comes_80 (by decide) ?_
    refine a_iadd hX dX8_comes_81 ?_
    refine a_iload hX dX8_comes_82 rfl ?_
    rw [show nI (8 * gn g) + 5 = nI (8 * gn g + 5) from nI_add _ 5]
    refine a_iast (8 * gn g + 5) hX rfl rfl (show _ < 3200 by omega) dX8_comes_84 ?_
    refine a_aload_n hX dX8_comes_85 rfl ?_
    refine gf_X8_13 rfl hX dX8_comes_86 ?_
    refine a_iload hX dX8_comes_89 rfl ?_
    refine a_bipush (6) hX dX8_comes_91 (by decide) ?_
    refine a_iadd hX dX8_comes_93 ?_
    refine a_iload hX dX8_comes_94 rfl ?_
    rw [show nI (8 * gn g) + 6 = nI (8 * gn g + 6) from nI_add _ 6]
    refine a_iast (8 * gn g + 6) hX rfl rfl (show _ < 3200 by omega) dX8_comes_96 ?_
    refine a_aload_n hX dX8_comes_97 rfl ?_
    refine gf_X8_13 rfl hX dX8_comes_98 ?_
    refine a_iload hX dX8_comes_101 rfl ?_
    refine a_bipush (7) hX dX8_comes_103 (by decide) ?_
    refine a_iadd hX dX8_comes_105 ?_
    refine a_iload hX dX8_comes_106 rfl ?_
    rw [show nI (8 * gn g) + 7 = nI (8 * gn g + 7) from nI_add _ 7]
    refine a_iast (8 * gn g + 7) hX rfl rfl (show _ < 3200 by omega) dX8_comes_108 ?_
    refine a_aload_n hX dX8_comes_109 rfl ?_
    refine a_dup hX dX8_comes_110 rfl ?_
    refine gf_X8_106 rfl hX dX8_comes_111 ?_
    refine a_iconst (1) hX dX8_comes_114 (by decide) ?_
    refine a_iadd hX dX8_comes_115 ?_
    rw [show (wset (wset (wset (wset (wset (wset (wset (wset w 222 (8 * gn g + 0) (nI (gt g))) 222 (8 * gn g + 1) c) 222 (8 * gn g + 2) a) 222 (8 * gn g + 3) b) 222 (8 * gn g + 4) c4) 222 (8 * gn g + 5) d) 222 (8 * gn g + 6) e) 222 (8 * gn g + 7) f).1 221 5 = nI (gn g) from by repeat (rw [wset_ne _ _ _ _ (by decide)]); exact hD.1.2.2.2, nI_1]
    refine pf_X8_106 rfl hX dX8_comes_116 ?_
    refine a_iconst (0) hX dX8_comes_119 (by decide) ?_
    refine a_iret hX hR dX8_comes_120 ⟨Nat.le_refl _, Nat.le_refl _⟩ rfl ?_
    have hS : coS g (en9 (nI (gt g)) c a b c4 d e f nd) = (0, psh g (en9 (nI (gt g)) c a b c4 d e f nd)) := if_neg (by omega)
    rw [hS] at h
    have h221 : (wset (wset (wset (wset (wset (wset (wset (wset (wset w 222 (8 * gn g + 0) (nI (gt g))) 222 (8 * gn g + 1) c) 222 (8 * gn g + 2) a) 222 (8 * gn g + 3) b) 222 (8 * gn g + 4) c4) 222 (8 * gn g + 5) d) 222 (8 * gn g + 6) e) 222 (8 * gn g + 7) f) 221 5 (nI (gn g + 1))).1 221 = upd (w.1 221) 5 (nI (gn g + 1)) := by
      rw [wset_row]
      repeat (rw [wset_ne _ _ _ _ (by decide)])
    have hgL : ∀ i, gL (psh g (en9 (nI (gt g)) c a b c4 d e f nd)) i = if i = gn g then en9 (nI (gt g)) c a b c4 d e f nd else gL g i := fun i => rfl
    refine h _ ⟨⟨by rw [h221]; exact hD.1.1, by rw [h221]; exact hD.1.2.1, by rw [h221]; exact hD.1.2.2.1, by rw [h221]; rfl⟩, fun i hi j hj => ?_, fun i hi e1 => ?_, by rw [h221]; exact hD.2.2.2.1, fun j hj => ?_⟩ ?_
    · have hi : i < gn g + 1 := hi
      rw [hgL]
      by_cases ei : i = gn g
      · subst ei
        rw [if_pos rfl, wset_ne _ _ _ _ (by decide)]
        rcases (show j = 0 ∨ j = 1 ∨ j = 2 ∨ j = 3 ∨ j = 4 ∨ j = 5 ∨ j = 6 ∨ j = 7 by omega) with rfl | rfl | rfl | rfl | rfl | rfl | rfl | rfl <;> simp [wset_1, en9]
      · rw [if_neg ei, ← hD.2.1 i (by omega) j hj, wset_ne _ _ _ _ (by decide)]
        repeat (rw [wset_1, if_neg (by omega)])
    · have hi : i < gn g + 1 := hi
      rw [hgL] at e1 ⊢
      repeat (rw [wset_ne _ _ _ _ (by decide)])
      by_cases ei : i = gn g
      · subst ei
        rw [if_pos rfl] at e1 ⊢
        exact hnd e1 hg4
      · rw [if_neg ei] at e1 ⊢
        exact hD.2.2.1 i (by omega) e1
    · repeat (rw [wset_ne _ _ _ _ (by decide)])
      exact hD.2.2.2.2 j hj
    · refine FrC.set ?_ (by decide) (by decide)
      repeat (refine FrC.set ?_ (by decide) (by decide))
      exact FrC.rf
  · refine a_bipush (7) hX dX8_comes_10 (by decide) ?_
    refine a_iret hX hR dX8_comes_12 ⟨Nat.le_refl _, Nat.le_refl _⟩ rfl ?_
    exact fin_o8 h (if_pos (hcc.mp c_7)) hD FrC.rf
abbrev T_X8_room : Tr := fun lay av w Po => ∃ (g : Sg) (p l : Int32), av = [.ref (lay 221), .int p, .int l] ∧ (MD g w) ∧ (okS g) ∧ ∀ w' : St, FrS w w' → (roomS g p l ≠ 1 → MP w' (RSn g) (ix p)) → Po (some (.int (roomS g p l))) w'
set_option maxRecDepth 100000 in
set_option maxHeartbeats 4000000 in
theorem c_X8_room : Ct yX8_room cX8_room 3 (some .int) 3 0 0 T_X8_room := by
  refine Ct.mk (by decide +kernel) ?_
  intro X av w Po hX hR hT
  obtain ⟨g, p, l, rfl, hD, ho, h⟩ := hT
  refine ⟨rfl, ?_⟩
  show A X 0 0 0 [some (.ref (xlay X 221)), some (.int p), some (.int l)] [] w
  refine a_aload_n hX dX8_room_0 rfl ?_
  refine a_iload_n hX dX8_room_1 rfl ?_
  refine a_callV [_] hX c_X8_isPerson mi_X8_isPerson mv_X8_isPerson se_X8_isPerson (klt rfl (by decide)) (adr_lt (kd_lt rfl (by decide))) (cell_8 rfl) rfl li_X8_150 (by decide) rfl rfl (Nat.le_of_ble_eq_true rfl) (fun q => q) dX8_room_2 ⟨_, rfl, ?_⟩
  rw [hD.1.2.2.1]
  refine a_if_eq_b 15 hX dX8_room_5 (by decide) (fun c_5 => ?_) (fun c_5 => ?_)
  · refine a_iconst (1) hX dX8_room_15 (by decide) ?_
    refine a_iret hX hR dX8_room_16 ⟨Nat.le_refl _, Nat.le_refl _⟩ rfl ?_
    have hr : roomS g p l = 1 := room_out (fun z => by first | exact c_5 z.1 | exact c_12 z.2)
    exact po_int (h w FrS.rf (fun z => absurd hr z)) hr
  · refine a_iload_n hX dX8_room_8 rfl ?_
    refine a_callS [_] hX c_X8_isPlace mi_X8_isPlace ms_X8_isPlace li_X8_153 (by decide) rfl rfl (Nat.le_of_ble_eq_true rfl) (fun q => q) dX8_room_9 ⟨_, rfl, ?_⟩
    refine a_if_ne_b 17 hX dX8_room_12 (by decide) (fun c_12 => ?_) (fun c_12 => ?_)
    · obtain ⟨j, hjg, hj6, rfl⟩ := isP_ex ho c_5
      obtain ⟨i, hi, rfl⟩ := isL_ex c_12
      have hroom := room_in ho.1.2.1 hjg hi
      refine a_aload_n hX dX8_room_17 rfl ?_
      refine a_iload_n hX dX8_room_18 rfl ?_
      refine a_aload_n hX dX8_room_19 rfl ?_
      refine gf_X8_97 rfl hX dX8_room_20 ?_
      rw [hD.1.1]
      refine a_callV [_, _] hX c_X8_tellAgain mi_X8_tellAgain mv_X8_tellAgain se_X8_tellAgain (klt rfl (by decide)) (adr_lt (kd_lt rfl (by decide))) (cell_8 rfl) rfl li_X8_140 (by decide) rfl rfl (Nat.le_of_ble_eq_true rfl) (fun q => q) dX8_room_23 ⟨g, _, _, rfl, hD, ho, hj6, ho.1.2.2, ?_⟩
      intro w23 h23 hm23
      rw [kn_all ho] at hm23
      have hm23 : MP w23 (RSn g) j := hm23
      have hD23 := hD.s h23
      refine a_aload_n hX dX8_room_26 rfl ?_
      refine gf_X8_20 rfl hX dX8_room_27 ?_
      refine a_iload_n hX dX8_room_30 rfl ?_
      refine a_iald (i) hX rfl rfl (show _ < 12 by omega) dX8_room_31 ?_
      refine a_if_eq 39 hX dX8_room_32 (by decide) (fun c_32 => ?_) (fun c_32 => ?_)
      · refine a_iconst (0) hX dX8_room_39 (by decide) ?_
        refine a_iret hX hR dX8_room_40 ⟨Nat.le_refl _, Nat.le_refl _⟩ rfl ?_
        exact po_int (h w23 h23 (fun _ => by rw [ix_nI (by omega)]; exact hm23)) (by
          rw [hroom, ← (hm23.1.pl hi).1]
          first | rw [if_pos c_32] | rw [if_neg c_32])
      · refine a_iconst (2) hX dX8_room_35 (by decide) ?_
        refine a_goto 40 hX dX8_room_36 (by decide) ?_
        refine a_iret hX hR dX8_room_40 ⟨Nat.le_refl _, Nat.le_refl _⟩ rfl ?_
        exact po_int (h w23 h23 (fun _ => by rw [ix_nI (by omega)]; exact hm23)) (by
          rw [hroom, ← (hm23.1.pl hi).1]
          first | rw [if_pos c_32] | rw [if_neg c_32])
    · refine a_iconst (1) hX dX8_room_15 (by decide) ?_
      refine a_iret hX hR dX8_room_16 ⟨Nat.le_refl _, Nat.le_refl _⟩ rfl ?_
      have hr : roomS g p l = 1 := room_out (fun z => by first | exact c_5 z.1 | exact c_12 z.2)
      exact po_int (h w FrS.rf (fun z => absurd hr z)) hr
abbrev T_X8_letter : Tr := fun lay av w Po => ∃ (g : Sg) (p l : Int32), av = [.ref (lay 221), .int p, .int l] ∧ (MD g w) ∧ (okS g) ∧ ∀ w' : St, MD (letterS g p l).2 w' → FrC w w' → Po (some (.int (letterS g p l).1)) w'
set_option maxRecDepth 100000 in
set_option maxHeartbeats 4000000 in
theorem c_X8_letter : Ct yX8_letter cX8_letter 4 (some .int) 4 0 0 T_X8_letter := by
  refine Ct.mk (by decide +kernel) ?_
  intro X av w Po hX hR hT
  obtain ⟨g, p, l, rfl, hD, ho, h⟩ := hT
  refine ⟨rfl, ?_⟩
  show A X 0 0 0 [some (.ref (xlay X 221)), some (.int p), some (.int l), none] [] w
  refine a_aload_n hX dX8_letter_0 rfl ?_
  refine a_iload_n hX dX8_letter_1 rfl ?_
  refine a_iload_n hX dX8_letter_2 rfl ?_
  refine a_callV [_, _] hX c_X8_room mi_X8_room mv_X8_room se_X8_room (klt rfl (by decide)) (adr_lt (kd_lt rfl (by decide))) (cell_8 rfl) rfl li_X8_156 (by decide) rfl rfl (Nat.le_of_ble_eq_true rfl) (fun q => q) dX8_letter_3 ⟨_, _, _, rfl, hD, ho, ?_⟩
  intro w3 h3 hm3
  have hD3 := hD.s h3
  refine a_istore_n (ls' := [_, _, _, _]) hX dX8_letter_6 (Nat.le_of_ble_eq_true rfl) rfl ?_
  refine a_iload_n hX dX8_letter_7 rfl ?_
  refine a_if_le 15 hX dX8_letter_8 (by decide) (fun c_8 => ?_) (fun c_8 => ?_)
  · refine a_aload_n hX dX8_letter_15 rfl ?_
    refine a_iconst (0) hX dX8_letter_16 (by decide) ?_
    refine a_iload_n hX dX8_letter_17 rfl ?_
    refine a_iload_n hX dX8_letter_18 rfl ?_
    refine a_iconst (0) hX dX8_letter_19 (by decide) ?_
    refine a_iconst (0) hX dX8_letter_20 (by decide) ?_
    refine a_iconst (0) hX dX8_letter_21 (by decide) ?_
    refine a_iconst (0) hX dX8_letter_22 (by decide) ?_
    refine a_callV [_, _, _, _, _, _, _] hX c_X8_comes mi_X8_comes mv_X8_comes se_X8_comes (klt rfl (by decide)) (adr_lt (kd_lt rfl (by decide))) (cell_8 rfl) rfl li_X8_159 (by decide) rfl rfl (Nat.le_of_ble_eq_true rfl) (fun q => q) dX8_letter_23 ⟨g, _, _, _, _, _, _, _, 0, rfl, hD3, ho, (fun z => absurd z (by decide)), ?_⟩
    intro wC hDC hmC
    refine a_iret hX hR dX8_letter_26 ⟨Nat.le_refl _, Nat.le_refl _⟩ rfl ?_
    first
    | exact fin_g8 h (by unfold letterS; rw [if_neg (not_not_intro (room_le.mp c_8))]) hDC (h3.C.tr hmC)
    | exact fin_o8 h (by unfold letterS; rw [if_pos (fun z => c_8 (room_le.mpr z))]) hD3 h3.C
  · refine a_iload_n hX dX8_letter_11 rfl ?_
    refine a_goto 26 hX dX8_letter_12 (by decide) ?_
    refine a_iret hX hR dX8_letter_26 ⟨Nat.le_refl _, Nat.le_refl _⟩ rfl ?_
    first
    | exact fin_g8 h (by unfold letterS; rw [if_neg (not_not_intro (room_le.mp c_8))]) hDC (h3.C.tr hmC)
    | exact fin_o8 h (by unfold letterS; rw [if_pos (fun z => c_8 (room_le.mpr z))]) hD3 h3.C
abbrev T_X8_term : Tr := fun lay av w Po => ∃ (g : Sg) (p l f n : Int32), av = [.ref (lay 221), .int p, .int l, .int f, .int n] ∧ (MD g w) ∧ (okS g) ∧ ∀ w' : St, MD (termS g p l f n).2 w' → FrC w w' → Po (some (.int (termS g p l f n).1)) w'
set_option maxRecDepth 100000 in
set_option maxHeartbeats 4000000 in
theorem c_X8_term : Ct yX8_term cX8_term 6 (some .int) 4 0 0 T_X8_term := by
  refine Ct.mk (by decide +kernel) ?_
  intro X av w Po hX hR hT
  obtain ⟨g, p, l, f, n, rfl, hD, ho, h⟩ := hT
  refine ⟨rfl, ?_⟩
  show A X 0 0 0 [some (.ref (xlay X 221)), some (.int p), some (.int l), some (.int f), some (.int n), none] [] w
  refine a_aload_n hX dX8_term_0 rfl ?_
  refine a_iload_n hX dX8_term_1 rfl ?_
  refine a_iload_n hX dX8_term_2 rfl ?_
  refine a_callV [_, _] hX c_X8_room mi_X8_room mv_X8_room se_X8_room (klt rfl (by decide)) (adr_lt (kd_lt rfl (by decide))) (cell_8 rfl) rfl li_X8_156 (by decide) rfl rfl (Nat.le_of_ble_eq_true rfl) (fun q => q) dX8_term_3 ⟨_, _, _, rfl, hD, ho, ?_⟩
  intro w3 h3 hm3
  have hD3 := hD.s h3
  refine a_istore (ls' := [_, _, _, _, _, _]) hX dX8_term_6 (Nat.le_of_ble_eq_true rfl) rfl ?_
  refine a_iload hX dX8_term_8 rfl ?_
  refine a_if_le 16 hX dX8_term_10 (by decide) (fun c_10 => ?_) (fun c_10 => ?_)
  · refine a_iload_n hX dX8_term_16 rfl ?_
    refine a_iload hX dX8_term_17 rfl ?_
    refine a_callS [_, _] hX c_X8_isTerm mi_X8_isTerm ms_X8_isTerm li_X8_166 (by decide) rfl rfl (Nat.le_of_ble_eq_true rfl) (fun q => q) dX8_term_19 ⟨_, _, rfl, ?_⟩
    refine a_if_eq_b 40 hX dX8_term_22 (by decide) (fun c_22 => ?_) (fun c_22 => ?_)
    · refine a_iconst (3) hX dX8_term_40 (by decide) ?_
      refine a_iret hX hR dX8_term_41 ⟨Nat.le_refl _, Nat.le_refl _⟩ rfl ?_
      first
      | exact fin_g8 h (by unfold termS; rw [if_neg (not_not_intro (room_le.mp c_10)), if_neg (not_not_intro c_22)]) hDC (h3.C.tr hmC)
      | exact fin_o8 h (by unfold termS; rw [if_neg (not_not_intro (room_le.mp c_10)), if_pos c_22]) hD3 h3.C
    · refine a_aload_n hX dX8_term_25 rfl ?_
      refine a_iconst (1) hX dX8_term_26 (by decide) ?_
      refine a_iload_n hX dX8_term_27 rfl ?_
      refine a_iload_n hX dX8_term_28 rfl ?_
      refine a_iload_n hX dX8_term_29 rfl ?_
      refine a_iload hX dX8_term_30 rfl ?_
      refine a_iconst (0) hX dX8_term_32 (by decide) ?_
      refine a_iconst (0) hX dX8_term_33 (by decide) ?_
      refine a_callV [_, _, _, _, _, _, _] hX c_X8_comes mi_X8_comes mv_X8_comes se_X8_comes (klt rfl (by decide)) (adr_lt (kd_lt rfl (by decide))) (cell_8 rfl) rfl li_X8_159 (by decide) rfl rfl (Nat.le_of_ble_eq_true rfl) (fun q => q) dX8_term_34 ⟨g, _, _, _, _, _, _, _, 0, rfl, hD3, ho, (fun z => absurd z (by decide)), ?_⟩
      intro wC hDC hmC
      refine a_goto 41 hX dX8_term_37 (by decide) ?_
      refine a_iret hX hR dX8_term_41 ⟨Nat.le_refl _, Nat.le_refl _⟩ rfl ?_
      first
      | exact fin_g8 h (by unfold termS; rw [if_neg (not_not_intro (room_le.mp c_10)), if_neg (not_not_intro c_22)]) hDC (h3.C.tr hmC)
      | exact fin_o8 h (by unfold termS; rw [if_neg (not_not_intro (room_le.mp c_10)), if_pos c_22]) hD3 h3.C
  · refine a_iload hX dX8_term_13 rfl ?_
    refine a_iret hX hR dX8_term_15 ⟨Nat.le_refl _, Nat.le_refl _⟩ rfl ?_
    exact fin_o8 h (by unfold termS; rw [if_pos (fun z => c_10 (room_le.mpr z))]) hD3 h3.C
abbrev T_X8_stay : Tr := fun lay av w Po => ∃ (g : Sg) (p l k f t s : Int32), av = [.ref (lay 221), .int p, .int l, .int k, .int f, .int t, .int s] ∧ (MD g w) ∧ (okS g) ∧ ∀ w' : St, MD (stayS g p l k f t s).2 w' → FrC w w' → Po (some (.int (stayS g p l k f t s).1)) w'
set_option maxRecDepth 100000 in
set_option maxHeartbeats 4000000 in
theorem c_X8_stay : Ct yX8_stay cX8_stay 8 (some .int) 4 0 0 T_X8_stay := by
  refine Ct.mk (by decide +kernel) ?_
  intro X av w Po hX hR hT
  obtain ⟨g, p, l, k, f, t, s, rfl, hD, ho, h⟩ := hT
  refine ⟨rfl, ?_⟩
  show A X 0 0 0 [some (.ref (xlay X 221)), some (.int p), some (.int l), some (.int k), some (.int f), some (.int t), some (.int s), none] [] w
  refine a_aload_n hX dX8_stay_0 rfl ?_
  refine a_iload_n hX dX8_stay_1 rfl ?_
  refine a_iload_n hX dX8_stay_2 rfl ?_
  refine a_callV [_, _] hX c_X8_room mi_X8_room mv_X8_room se_X8_room (klt rfl (by decide)) (adr_lt (kd_lt rfl (by decide))) (cell_8 rfl) rfl li_X8_156 (by decide) rfl rfl (Nat.le_of_ble_eq_true rfl) (fun q => q) dX8_stay_3 ⟨_, _, _, rfl, hD, ho, ?_⟩
  intro w3 h3 hm3
  have hD3 := hD.s h3
  refine a_istore (ls' := [_, _, _, _, _, _, _, _]) hX dX8_stay_6 (Nat.le_of_ble_eq_true rfl) rfl ?_
  refine a_iload hX dX8_stay_8 rfl ?_
  refine a_if_le 16 hX dX8_stay_10 (by decide) (fun c_10 => ?_) (fun c_10 => ?_)
  · have hs4 := isS4 s
    refine a_iload_n hX dX8_stay_16 rfl ?_
    refine a_bipush (6) hX dX8_stay_17 (by decide) ?_
    refine a_icmp_eq 28 hX dX8_stay_19 (by decide) (fun c_19 => ?_) (fun c_19 => ?_)
    · refine a_iload hX dX8_stay_28 rfl ?_
      refine a_if_lt 64 hX dX8_stay_30 (by decide) (fun c_30 => ?_) (fun c_30 => ?_)
      · refine a_iconst (3) hX dX8_stay_64 (by decide) ?_
        refine a_iret hX hR dX8_stay_65 ⟨Nat.le_refl _, Nat.le_refl _⟩ rfl ?_
        exact fin_o8 h (by unfold stayS; rw [if_neg (not_not_intro (room_le.mp c_10)), if_pos (by grind)]) hD3 h3.C
      · refine a_iload hX dX8_stay_33 rfl ?_
        refine a_sipush (4095) hX dX8_stay_35 (by decide) ?_
        refine a_icmp_gt 64 hX dX8_stay_38 (by decide) (fun c_38 => ?_) (fun c_38 => ?_)
        · refine a_iconst (3) hX dX8_stay_64 (by decide) ?_
          refine a_iret hX hR dX8_stay_65 ⟨Nat.le_refl _, Nat.le_refl _⟩ rfl ?_
          exact fin_o8 h (by unfold stayS; rw [if_neg (not_not_intro (room_le.mp c_10)), if_pos (by grind)]) hD3 h3.C
        · refine a_iload hX dX8_stay_41 rfl ?_
          refine a_callS [_] hX c_X8_isDay mi_X8_isDay ms_X8_isDay li_X8_163 (by decide) rfl rfl (Nat.le_of_ble_eq_true rfl) (fun q => q) dX8_stay_43 ⟨_, rfl, ?_⟩
          refine a_if_eq_b 64 hX dX8_stay_46 (by decide) (fun c_46 => ?_) (fun c_46 => ?_)
          · refine a_iconst (3) hX dX8_stay_64 (by decide) ?_
            refine a_iret hX hR dX8_stay_65 ⟨Nat.le_refl _, Nat.le_refl _⟩ rfl ?_
            exact fin_o8 h (by unfold stayS; rw [if_neg (not_not_intro (room_le.mp c_10)), if_pos (by grind)]) hD3 h3.C
          · refine a_iload hX dX8_stay_49 rfl ?_
            refine a_callS [_] hX c_X8_isDay mi_X8_isDay ms_X8_isDay li_X8_163 (by decide) rfl rfl (Nat.le_of_ble_eq_true rfl) (fun q => q) dX8_stay_51 ⟨_, rfl, ?_⟩
            refine a_if_eq_b 64 hX dX8_stay_54 (by decide) (fun c_54 => ?_) (fun c_54 => ?_)
            · refine a_iconst (3) hX dX8_stay_64 (by decide) ?_
              refine a_iret hX hR dX8_stay_65 ⟨Nat.le_refl _, Nat.le_refl _⟩ rfl ?_
              exact fin_o8 h (by unfold stayS; rw [if_neg (not_not_intro (room_le.mp c_10)), if_pos (by grind)]) hD3 h3.C
            · refine a_iload hX dX8_stay_57 rfl ?_
              refine a_iload hX dX8_stay_59 rfl ?_
              refine a_icmp_ge 66 hX dX8_stay_61 (by decide) (fun c_61 => ?_) (fun c_61 => ?_)
              · refine a_aload_n hX dX8_stay_66 rfl ?_
                refine a_iconst (3) hX dX8_stay_67 (by decide) ?_
                refine a_iload_n hX dX8_stay_68 rfl ?_
                refine a_iload_n hX dX8_stay_69 rfl ?_
                refine a_iload_n hX dX8_stay_70 rfl ?_
                refine a_iload hX dX8_stay_71 rfl ?_
                refine a_iload hX dX8_stay_73 rfl ?_
                refine a_iload hX dX8_stay_75 rfl ?_
                refine a_callV [_, _, _, _, _, _, _] hX c_X8_comes mi_X8_comes mv_X8_comes se_X8_comes (klt rfl (by decide)) (adr_lt (kd_lt rfl (by decide))) (cell_8 rfl) rfl li_X8_159 (by decide) rfl rfl (Nat.le_of_ble_eq_true rfl) (fun q => q) dX8_stay_77 ⟨g, _, _, _, _, _, _, _, 0, rfl, hD3, ho, (fun z => absurd z (by decide)), ?_⟩
                intro wC hDC hmC
                refine a_iret hX hR dX8_stay_80 ⟨Nat.le_refl _, Nat.le_refl _⟩ rfl ?_
                exact fin_g8 h (by unfold stayS; rw [if_neg (not_not_intro (room_le.mp c_10)), if_neg (by grind)]) hDC (h3.C.tr hmC)
              · refine a_iconst (3) hX dX8_stay_64 (by decide) ?_
                refine a_iret hX hR dX8_stay_65 ⟨Nat.le_refl _, Nat.le_refl _⟩ rfl ?_
                exact fin_o8 h (by unfold stayS; rw [if_neg (not_not_intro (room_le.mp c_10)), if_pos (by grind)]) hD3 h3.C
    · refine a_iload_n hX dX8_stay_22 rfl ?_
      refine a_bipush (7) hX dX8_stay_23 (by decide) ?_
      refine a_icmp_ne 64 hX dX8_stay_25 (by decide) (fun c_25 => ?_) (fun c_25 => ?_)
      · refine a_iconst (3) hX dX8_stay_64 (by decide) ?_
        refine a_iret hX hR dX8_stay_65 ⟨Nat.le_refl _, Nat.le_refl _⟩ rfl ?_
        exact fin_o8 h (by unfold stayS; rw [if_neg (not_not_intro (room_le.mp c_10)), if_pos (by grind)]) hD3 h3.C
      · refine a_iload hX dX8_stay_28 rfl ?_
        refine a_if_lt 64 hX dX8_stay_30 (by decide) (fun c_30 => ?_) (fun c_30 => ?_)
        · refine a_iconst (3) hX dX8_stay_64 (by decide) ?_
          refine a_iret hX hR dX8_stay_65 ⟨Nat.le_refl _, Nat.le_refl _⟩ rfl ?_
          exact fin_o8 h (by unfold stayS; rw [if_neg (not_not_intro (room_le.mp c_10)), if_pos (by grind)]) hD3 h3.C
        · refine a_iload hX dX8_stay_33 rfl ?_
          refine a_sipush (4095) hX dX8_stay_35 (by decide) ?_
          refine a_icmp_gt 64 hX dX8_stay_38 (by decide) (fun c_38 => ?_) (fun c_38 => ?_)
          · refine a_iconst (3) hX dX8_stay_64 (by decide) ?_
            refine a_iret hX hR dX8_stay_65 ⟨Nat.le_refl _, Nat.le_refl _⟩ rfl ?_
            exact fin_o8 h (by unfold stayS; rw [if_neg (not_not_intro (room_le.mp c_10)), if_pos (by grind)]) hD3 h3.C
          · refine a_iload hX dX8_stay_41 rfl ?_
            refine a_callS [_] hX c_X8_isDay mi_X8_isDay ms_X8_isDay li_X8_163 (by decide) rfl rfl (Nat.le_of_ble_eq_true rfl) (fun q => q) dX8_stay_43 ⟨_, rfl, ?_⟩
            refine a_if_eq_b 64 hX dX8_stay_46 (by decide) (fun c_46 => ?_) (fun c_46 => ?_)
            · refine a_iconst (3) hX dX8_stay_64 (by decide) ?_
              refine a_iret hX hR dX8_stay_65 ⟨Nat.le_refl _, Nat.le_refl _⟩ rfl ?_
              exact fin_o8 h (by unfold stayS; rw [if_neg (not_not_intro (room_le.mp c_10)), if_pos (by grind)]) hD3 h3.C
            · refine a_iload hX dX8_stay_49 rfl ?_
              refine a_callS [_] hX c_X8_isDay mi_X8_isDay ms_X8_isDay li_X8_163 (by decide) rfl rfl (Nat.le_of_ble_eq_true rfl) (fun q => q) dX8_stay_51 ⟨_, rfl, ?_⟩
              refine a_if_eq_b 64 hX dX8_stay_54 (by decide) (fun c_54 => ?_) (fun c_54 => ?_)
              · refine a_iconst (3) hX dX8_stay_64 (by decide) ?_
                refine a_iret hX hR dX8_stay_65 ⟨Nat.le_refl _, Nat.le_refl _⟩ rfl ?_
                exact fin_o8 h (by unfold stayS; rw [if_neg (not_not_intro (room_le.mp c_10)), if_pos (by grind)]) hD3 h3.C
              · refine a_iload hX dX8_stay_57 rfl ?_
                refine a_iload hX dX8_stay_59 rfl ?_
                refine a_icmp_ge 66 hX dX8_stay_61 (by decide) (fun c_61 => ?_) (fun c_61 => ?_)
                · refine a_aload_n hX dX8_stay_66 rfl ?_
                  refine a_iconst (3) hX dX8_stay_67 (by decide) ?_
                  refine a_iload_n hX dX8_stay_68 rfl ?_
                  refine a_iload_n hX dX8_stay_69 rfl ?_
                  refine a_iload_n hX dX8_stay_70 rfl ?_
                  refine a_iload hX dX8_stay_71 rfl ?_
                  refine a_iload hX dX8_stay_73 rfl ?_
                  refine a_iload hX dX8_stay_75 rfl ?_
                  refine a_callV [_, _, _, _, _, _, _] hX c_X8_comes mi_X8_comes mv_X8_comes se_X8_comes (klt rfl (by decide)) (adr_lt (kd_lt rfl (by decide))) (cell_8 rfl) rfl li_X8_159 (by decide) rfl rfl (Nat.le_of_ble_eq_true rfl) (fun q => q) dX8_stay_77 ⟨g, _, _, _, _, _, _, _, 0, rfl, hD3, ho, (fun z => absurd z (by decide)), ?_⟩
                  intro wC hDC hmC
                  refine a_iret hX hR dX8_stay_80 ⟨Nat.le_refl _, Nat.le_refl _⟩ rfl ?_
                  exact fin_g8 h (by unfold stayS; rw [if_neg (not_not_intro (room_le.mp c_10)), if_neg (by grind)]) hDC (h3.C.tr hmC)
                · refine a_iconst (3) hX dX8_stay_64 (by decide) ?_
                  refine a_iret hX hR dX8_stay_65 ⟨Nat.le_refl _, Nat.le_refl _⟩ rfl ?_
                  exact fin_o8 h (by unfold stayS; rw [if_neg (not_not_intro (room_le.mp c_10)), if_pos (by grind)]) hD3 h3.C
  · refine a_iload hX dX8_stay_13 rfl ?_
    refine a_iret hX hR dX8_stay_15 ⟨Nat.le_refl _, Nat.le_refl _⟩ rfl ?_
    exact fin_o8 h (by unfold stayS; rw [if_pos (fun z => c_10 (room_le.mpr z))]) hD3 h3.C
abbrev T_X8_quash : Tr := fun lay av w Po => ∃ (g : Sg) (p l o : Int32), av = [.ref (lay 221), .int p, .int l, .int o] ∧ (MD g w) ∧ (okS g) ∧ ∀ w' : St, MD (quashS g p l o).2 w' → FrC w w' → Po (some (.int (quashS g p l o).1)) w'
set_option maxRecDepth 100000 in
set_option maxHeartbeats 4000000 in
theorem c_X8_quash : Ct yX8_quash cX8_quash 5 (some .int) 4 0 0 T_X8_quash := by
  refine Ct.mk (by decide +kernel) ?_
  intro X av w Po hX hR hT
  obtain ⟨g, p, l, o, rfl, hD, ho, h⟩ := hT
  refine ⟨rfl, ?_⟩
  show A X 0 0 0 [some (.ref (xlay X 221)), some (.int p), some (.int l), some (.int o), none] [] w
  refine a_iload_n hX dX8_quash_0 rfl ?_
  refine a_callS [_] hX c_X8_isPlace mi_X8_isPlace ms_X8_isPlace li_X8_153 (by decide) rfl rfl (Nat.le_of_ble_eq_true rfl) (fun q => q) dX8_quash_1 ⟨_, rfl, ?_⟩
  refine a_if_ne_b 9 hX dX8_quash_4 (by decide) (fun c_4 => ?_) (fun c_4 => ?_)
  · refine a_aload_n hX dX8_quash_9 rfl ?_
    refine a_iload_n hX dX8_quash_10 rfl ?_
    refine a_iload_n hX dX8_quash_11 rfl ?_
    refine a_callV [_, _] hX c_X8_room mi_X8_room mv_X8_room se_X8_room (klt rfl (by decide)) (adr_lt (kd_lt rfl (by decide))) (cell_8 rfl) rfl li_X8_156 (by decide) rfl rfl (Nat.le_of_ble_eq_true rfl) (fun q => q) dX8_quash_12 ⟨_, _, _, rfl, hD, ho, ?_⟩
    intro w12 h12 hm12
    have hD12 := hD.s h12
    refine a_istore (ls' := [_, _, _, _, _]) hX dX8_quash_15 (Nat.le_of_ble_eq_true rfl) rfl ?_
    refine a_iload hX dX8_quash_17 rfl ?_
    refine a_if_le 25 hX dX8_quash_19 (by decide) (fun c_19 => ?_) (fun c_19 => ?_)
    · have hr0 := room_le.mp c_19
      obtain ⟨y, hy, rfl⟩ := isL_ex c_4
      have hM := hm12 (by rw [hr0]; decide)
      obtain ⟨m0, m5, -⟩ := hM.1.pl hy
      have hp0 : pl (RSn g) p (nI y) 0 = w12.1 224 y := by unfold pl; rw [m0, ix_nI (by omega)]
      have hp5 : pl (RSn g) p (nI y) 5 = w12.1 232 y := by unfold pl; rw [m5, ix_nI (by omega)]
      refine a_aload_n hX dX8_quash_25 rfl ?_
      refine gf_X8_20 rfl hX dX8_quash_26 ?_
      refine a_iload_n hX dX8_quash_29 rfl ?_
      refine a_iald (y) hX rfl rfl (show _ < 12 by omega) dX8_quash_30 ?_
      refine a_iconst (2) hX dX8_quash_31 (by decide) ?_
      refine a_icmp_lt 56 hX dX8_quash_32 (by decide) (fun c_32 => ?_) (fun c_32 => ?_)
      · refine a_iconst (5) hX dX8_quash_56 (by decide) ?_
        refine a_iret hX hR dX8_quash_57 ⟨Nat.le_refl _, Nat.le_refl _⟩ rfl ?_
        exact fin_o8 h (by unfold quashS; rw [if_neg (not_not_intro c_4), if_neg (not_not_intro hr0), if_pos (by rw [hp0, hp5]; grind)]) hD12 h12.C
      · refine a_aload_n hX dX8_quash_35 rfl ?_
        refine gf_X8_20 rfl hX dX8_quash_36 ?_
        refine a_iload_n hX dX8_quash_39 rfl ?_
        refine a_iald (y) hX rfl rfl (show _ < 12 by omega) dX8_quash_40 ?_
        refine a_bipush (7) hX dX8_quash_41 (by decide) ?_
        refine a_icmp_gt 56 hX dX8_quash_43 (by decide) (fun c_43 => ?_) (fun c_43 => ?_)
        · refine a_iconst (5) hX dX8_quash_56 (by decide) ?_
          refine a_iret hX hR dX8_quash_57 ⟨Nat.le_refl _, Nat.le_refl _⟩ rfl ?_
          exact fin_o8 h (by unfold quashS; rw [if_neg (not_not_intro c_4), if_neg (not_not_intro hr0), if_pos (by rw [hp0, hp5]; grind)]) hD12 h12.C
        · refine a_aload_n hX dX8_quash_46 rfl ?_
          refine gf_X8_44 rfl hX dX8_quash_47 ?_
          refine a_iload_n hX dX8_quash_50 rfl ?_
          refine a_iald (y) hX rfl rfl (show _ < 12 by omega) dX8_quash_51 ?_
          refine a_iconst (-1) hX dX8_quash_52 (by decide) ?_
          refine a_icmp_eq 58 hX dX8_quash_53 (by decide) (fun c_53 => ?_) (fun c_53 => ?_)
          · refine a_aload_n hX dX8_quash_58 rfl ?_
            refine a_iconst (4) hX dX8_quash_59 (by decide) ?_
            refine a_iload_n hX dX8_quash_60 rfl ?_
            refine a_iload_n hX dX8_quash_61 rfl ?_
            refine a_iload_n hX dX8_quash_62 rfl ?_
            refine a_iconst (0) hX dX8_quash_63 (by decide) ?_
            refine a_iconst (0) hX dX8_quash_64 (by decide) ?_
            refine a_iconst (0) hX dX8_quash_65 (by decide) ?_
            refine a_callV [_, _, _, _, _, _, _] hX c_X8_comes mi_X8_comes mv_X8_comes se_X8_comes (klt rfl (by decide)) (adr_lt (kd_lt rfl (by decide))) (cell_8 rfl) rfl li_X8_159 (by decide) rfl rfl (Nat.le_of_ble_eq_true rfl) (fun q => q) dX8_quash_66 ⟨g, _, _, _, _, _, _, _, 0, rfl, hD12, ho, (fun z => absurd z (by decide)), ?_⟩
            intro wC hDC hmC
            refine a_iret hX hR dX8_quash_69 ⟨Nat.le_refl _, Nat.le_refl _⟩ rfl ?_
            exact fin_g8 h (by unfold quashS; rw [if_neg (not_not_intro c_4), if_neg (not_not_intro hr0), if_neg (by rw [hp0, hp5]; grind)]) hDC (h12.C.tr hmC)
          · refine a_iconst (5) hX dX8_quash_56 (by decide) ?_
            refine a_iret hX hR dX8_quash_57 ⟨Nat.le_refl _, Nat.le_refl _⟩ rfl ?_
            exact fin_o8 h (by unfold quashS; rw [if_neg (not_not_intro c_4), if_neg (not_not_intro hr0), if_pos (by rw [hp0, hp5]; grind)]) hD12 h12.C
    · refine a_iload hX dX8_quash_22 rfl ?_
      refine a_iret hX hR dX8_quash_24 ⟨Nat.le_refl _, Nat.le_refl _⟩ rfl ?_
      exact fin_o8 h (by unfold quashS; rw [if_neg (not_not_intro c_4), if_pos (fun z => c_19 (room_le.mpr z))]) hD12 h12.C
  · refine a_iconst (1) hX dX8_quash_7 (by decide) ?_
    refine a_iret hX hR dX8_quash_8 ⟨Nat.le_refl _, Nat.le_refl _⟩ rfl ?_
    exact fin_o8 h (by unfold quashS; rw [if_pos c_4]) hD FrC.rf
abbrev T_X8_month : Tr := fun lay av w Po => ∃ (g : Sg) (p m b n : Int32), av = [.ref (lay 221), .int p, .int m, .int b, .int n] ∧ (MD g w) ∧ (okS g) ∧ ∀ w' : St, MD (monthS g p m b n).2 w' → FrC w w' → Po (some (.int (monthS g p m b n).1)) w'
set_option maxRecDepth 100000 in
set_option maxHeartbeats 4000000 in
theorem c_X8_month : Ct yX8_month cX8_month 5 (some .int) 1 0 0 T_X8_month := by
  refine Ct.mk (by decide +kernel) ?_
  intro X av w Po hX hR hT
  obtain ⟨g, p, m, b, n, rfl, hD, ho, h⟩ := hT
  refine ⟨rfl, ?_⟩
  show A X 0 0 0 [some (.ref (xlay X 221)), some (.int p), some (.int m), some (.int b), some (.int n)] [] w
  refine a_aload_n hX dX8_month_0 rfl ?_
  refine a_iload_n hX dX8_month_1 rfl ?_
  refine a_callV [_] hX c_X8_isPerson mi_X8_isPerson mv_X8_isPerson se_X8_isPerson (klt rfl (by decide)) (adr_lt (kd_lt rfl (by decide))) (cell_8 rfl) rfl li_X8_150 (by decide) rfl rfl (Nat.le_of_ble_eq_true rfl) (fun q => q) dX8_month_2 ⟨_, rfl, ?_⟩
  rw [hD.1.2.2.1]
  refine a_if_eq_b 15 hX dX8_month_5 (by decide) (fun c_5 => ?_) (fun c_5 => ?_)
  · refine a_iconst (1) hX dX8_month_15 (by decide) ?_
    refine a_iret hX hR dX8_month_16 ⟨Nat.le_refl _, Nat.le_refl _⟩ rfl ?_
    exact fin_o8 h (by unfold monthS; rw [if_pos (by grind)]) hD FrC.rf
  · refine a_iload_n hX dX8_month_8 rfl ?_
    refine a_callS [_] hX c_X8_isMonth mi_X8_isMonth ms_X8_isMonth li_X8_186 (by decide) rfl rfl (Nat.le_of_ble_eq_true rfl) (fun q => q) dX8_month_9 ⟨_, rfl, ?_⟩
    refine a_if_ne_b 17 hX dX8_month_12 (by decide) (fun c_12 => ?_) (fun c_12 => ?_)
    · refine a_iload hX dX8_month_17 rfl ?_
      refine a_if_lt 29 hX dX8_month_19 (by decide) (fun c_19 => ?_) (fun c_19 => ?_)
      · refine a_iconst (3) hX dX8_month_29 (by decide) ?_
        refine a_goto 53 hX dX8_month_30 (by decide) ?_
        refine a_iret hX hR dX8_month_53 ⟨Nat.le_refl _, Nat.le_refl _⟩ rfl ?_
        first
        | exact fin_g8 h (by unfold monthS; rw [if_neg (not_not_intro ⟨c_5, c_12⟩), if_neg (by grind)]; first | rw [if_pos c_38] | rw [if_neg c_38]) hDC (FrC.rf.tr hmC)
        | exact fin_o8 h (by unfold monthS; rw [if_neg (not_not_intro ⟨c_5, c_12⟩), if_pos (by grind)]) hD FrC.rf
      · refine a_iload hX dX8_month_22 rfl ?_
        refine a_bipush (30) hX dX8_month_24 (by decide) ?_
        refine a_icmp_le 33 hX dX8_month_26 (by decide) (fun c_26 => ?_) (fun c_26 => ?_)
        · refine a_aload_n hX dX8_month_33 rfl ?_
          refine a_iconst (5) hX dX8_month_34 (by decide) ?_
          refine a_iload_n hX dX8_month_35 rfl ?_
          refine a_iload_n hX dX8_month_36 rfl ?_
          refine a_iload_n hX dX8_month_37 rfl ?_
          refine a_if_eq 45 hX dX8_month_38 (by decide) (fun c_38 => ?_) (fun c_38 => ?_)
          · refine a_iconst (0) hX dX8_month_45 (by decide) ?_
            refine a_iload hX dX8_month_46 rfl ?_
            refine a_iconst (0) hX dX8_month_48 (by decide) ?_
            refine a_iconst (0) hX dX8_month_49 (by decide) ?_
            refine a_callV [_, _, _, _, _, _, _] hX c_X8_comes mi_X8_comes mv_X8_comes se_X8_comes (klt rfl (by decide)) (adr_lt (kd_lt rfl (by decide))) (cell_8 rfl) rfl li_X8_159 (by decide) rfl rfl (Nat.le_of_ble_eq_true rfl) (fun q => q) dX8_month_50 ⟨g, _, _, _, _, _, _, _, 0, rfl, hD, ho, (fun z => absurd z (by decide)), ?_⟩
            intro wC hDC hmC
            refine a_iret hX hR dX8_month_53 ⟨Nat.le_refl _, Nat.le_refl _⟩ rfl ?_
            first
            | exact fin_g8 h (by unfold monthS; rw [if_neg (not_not_intro ⟨c_5, c_12⟩), if_neg (by grind)]; first | rw [if_pos c_38] | rw [if_neg c_38]) hDC (FrC.rf.tr hmC)
            | exact fin_o8 h (by unfold monthS; rw [if_neg (not_not_intro ⟨c_5, c_12⟩), if_pos (by grind)]) hD FrC.rf
          · refine a_iconst (1) hX dX8_month_41 (by decide) ?_
            refine a_goto 46 hX dX8_month_42 (by decide) ?_
            refine a_iload hX dX8_month_46 rfl ?_
            refine a_iconst (0) hX dX8_month_48 (by decide) ?_
            refine a_iconst (0) hX dX8_month_49 (by decide) ?_
            refine a_callV [_, _, _, _, _, _, _] hX c_X8_comes mi_X8_comes mv_X8_comes se_X8_comes (klt rfl (by decide)) (adr_lt (kd_lt rfl (by decide))) (cell_8 rfl) rfl li_X8_159 (by decide) rfl rfl (Nat.le_of_ble_eq_true rfl) (fun q => q) dX8_month_50 ⟨g, _, _, _, _, _, _, _, 0, rfl, hD, ho, (fun z => absurd z (by decide)), ?_⟩
            intro wC hDC hmC
            refine a_iret hX hR dX8_month_53 ⟨Nat.le_refl _, Nat.le_refl _⟩ rfl ?_
            first
            | exact fin_g8 h (by unfold monthS; rw [if_neg (not_not_intro ⟨c_5, c_12⟩), if_neg (by grind)]; first | rw [if_pos c_38] | rw [if_neg c_38]) hDC (FrC.rf.tr hmC)
            | exact fin_o8 h (by unfold monthS; rw [if_neg (not_not_intro ⟨c_5, c_12⟩), if_pos (by grind)]) hD FrC.rf
        · refine a_iconst (3) hX dX8_month_29 (by decide) ?_
          refine a_goto 53 hX dX8_month_30 (by decide) ?_
          refine a_iret hX hR dX8_month_53 ⟨Nat.le_refl _, Nat.le_refl _⟩ rfl ?_
          first
          | exact fin_g8 h (by unfold monthS; rw [if_neg (not_not_intro ⟨c_5, c_12⟩), if_neg (by grind)]; first | rw [if_pos c_38] | rw [if_neg c_38]) hDC (FrC.rf.tr hmC)
          | exact fin_o8 h (by unfold monthS; rw [if_neg (not_not_intro ⟨c_5, c_12⟩), if_pos (by grind)]) hD FrC.rf
    · refine a_iconst (1) hX dX8_month_15 (by decide) ?_
      refine a_iret hX hR dX8_month_16 ⟨Nat.le_refl _, Nat.le_refl _⟩ rfl ?_
      exact fin_o8 h (by unfold monthS; rw [if_pos (by grind)]) hD FrC.rf
abbrev T_X8_tear : Tr := fun lay av w Po => ∃ (g : Sg) (p m : Int32), av = [.ref (lay 221), .int p, .int m] ∧ (MD g w) ∧ (okS g) ∧ ∀ w' : St, MD (tearS g p m).2 w' → FrC w w' → Po (some (.int (tearS g p m).1)) w'
set_option maxRecDepth 100000 in
set_option maxHeartbeats 4000000 in
theorem c_X8_tear : Ct yX8_tear cX8_tear 3 (some .int) 1 0 0 T_X8_tear := by
  refine Ct.mk (by decide +kernel) ?_
  intro X av w Po hX hR hT
  obtain ⟨g, p, m, rfl, hD, ho, h⟩ := hT
  refine ⟨rfl, ?_⟩
  show A X 0 0 0 [some (.ref (xlay X 221)), some (.int p), some (.int m)] [] w
  refine a_aload_n hX dX8_tear_0 rfl ?_
  refine a_iload_n hX dX8_tear_1 rfl ?_
  refine a_callV [_] hX c_X8_isPerson mi_X8_isPerson mv_X8_isPerson se_X8_isPerson (klt rfl (by decide)) (adr_lt (kd_lt rfl (by decide))) (cell_8 rfl) rfl li_X8_150 (by decide) rfl rfl (Nat.le_of_ble_eq_true rfl) (fun q => q) dX8_tear_2 ⟨_, rfl, ?_⟩
  rw [hD.1.2.2.1]
  refine a_if_eq_b 15 hX dX8_tear_5 (by decide) (fun c_5 => ?_) (fun c_5 => ?_)
  · refine a_iconst (1) hX dX8_tear_15 (by decide) ?_
    refine a_goto 31 hX dX8_tear_16 (by decide) ?_
    refine a_iret hX hR dX8_tear_31 ⟨Nat.le_refl _, Nat.le_refl _⟩ rfl ?_
    first
    | exact fin_g8 h (by unfold tearS; rw [if_neg (not_not_intro ⟨c_5, c_12⟩)]) hDC (FrC.rf.tr hmC)
    | exact fin_o8 h (by unfold tearS; rw [if_pos (by grind)]) hD FrC.rf
  · refine a_iload_n hX dX8_tear_8 rfl ?_
    refine a_callS [_] hX c_X8_isMonth mi_X8_isMonth ms_X8_isMonth li_X8_186 (by decide) rfl rfl (Nat.le_of_ble_eq_true rfl) (fun q => q) dX8_tear_9 ⟨_, rfl, ?_⟩
    refine a_if_ne_b 19 hX dX8_tear_12 (by decide) (fun c_12 => ?_) (fun c_12 => ?_)
    · refine a_aload_n hX dX8_tear_19 rfl ?_
      refine a_bipush (7) hX dX8_tear_20 (by decide) ?_
      refine a_iload_n hX dX8_tear_22 rfl ?_
      refine a_iload_n hX dX8_tear_23 rfl ?_
      refine a_iconst (0) hX dX8_tear_24 (by decide) ?_
      refine a_iconst (0) hX dX8_tear_25 (by decide) ?_
      refine a_iconst (0) hX dX8_tear_26 (by decide) ?_
      refine a_iconst (0) hX dX8_tear_27 (by decide) ?_
      refine a_callV [_, _, _, _, _, _, _] hX c_X8_comes mi_X8_comes mv_X8_comes se_X8_comes (klt rfl (by decide)) (adr_lt (kd_lt rfl (by decide))) (cell_8 rfl) rfl li_X8_159 (by decide) rfl rfl (Nat.le_of_ble_eq_true rfl) (fun q => q) dX8_tear_28 ⟨g, _, _, _, _, _, _, _, 0, rfl, hD, ho, (fun z => absurd z (by decide)), ?_⟩
      intro wC hDC hmC
      refine a_iret hX hR dX8_tear_31 ⟨Nat.le_refl _, Nat.le_refl _⟩ rfl ?_
      first
      | exact fin_g8 h (by unfold tearS; rw [if_neg (not_not_intro ⟨c_5, c_12⟩)]) hDC (FrC.rf.tr hmC)
      | exact fin_o8 h (by unfold tearS; rw [if_pos (by grind)]) hD FrC.rf
    · refine a_iconst (1) hX dX8_tear_15 (by decide) ?_
      refine a_goto 31 hX dX8_tear_16 (by decide) ?_
      refine a_iret hX hR dX8_tear_31 ⟨Nat.le_refl _, Nat.le_refl _⟩ rfl ?_
      first
      | exact fin_g8 h (by unfold tearS; rw [if_neg (not_not_intro ⟨c_5, c_12⟩)]) hDC (FrC.rf.tr hmC)
      | exact fin_o8 h (by unfold tearS; rw [if_pos (by grind)]) hD FrC.rf
abbrev T_X8_held : Tr := fun lay av w Po => ∃ (g : Sg) (p m k v : Int32), av = [.ref (lay 221), .int p, .int m, .int k, .int v] ∧ (MD g w) ∧ (okS g) ∧ ∀ w' : St, MD (heldS g p m k v).2 w' → FrC w w' → Po (some (.int (heldS g p m k v).1)) w'
set_option maxRecDepth 100000 in
set_option maxHeartbeats 4000000 in
theorem c_X8_held : Ct yX8_held cX8_held 8 (some .int) 3 0 0 T_X8_held := by
  refine Ct.mk (by decide +kernel) ?_
  intro X av w Po hX hR hT
  obtain ⟨g, p, m, k, v, rfl, hD, ho, h⟩ := hT
  refine ⟨rfl, ?_⟩
  show A X 0 0 0 [some (.ref (xlay X 221)), some (.int p), some (.int m), some (.int k), some (.int v), none, none, none] [] w
  refine a_aload_n hX dX8_held_0 rfl ?_
  refine a_iload_n hX dX8_held_1 rfl ?_
  refine a_callV [_] hX c_X8_isPerson mi_X8_isPerson mv_X8_isPerson se_X8_isPerson (klt rfl (by decide)) (adr_lt (kd_lt rfl (by decide))) (cell_8 rfl) rfl li_X8_150 (by decide) rfl rfl (Nat.le_of_ble_eq_true rfl) (fun q => q) dX8_held_2 ⟨_, rfl, ?_⟩
  rw [hD.1.2.2.1]
  refine a_if_eq_b 15 hX dX8_held_5 (by decide) (fun c_5 => ?_) (fun c_5 => ?_)
  · refine a_iconst (1) hX dX8_held_15 (by decide) ?_
    refine a_iret hX hR dX8_held_16 ⟨Nat.le_refl _, Nat.le_refl _⟩ rfl ?_
    exact fin_o8 h (by unfold heldS; rw [if_pos (by grind)]) hD FrC.rf
  · refine a_iload_n hX dX8_held_8 rfl ?_
    refine a_callS [_] hX c_X8_isMonth mi_X8_isMonth ms_X8_isMonth li_X8_186 (by decide) rfl rfl (Nat.le_of_ble_eq_true rfl) (fun q => q) dX8_held_9 ⟨_, rfl, ?_⟩
    refine a_if_ne_b 17 hX dX8_held_12 (by decide) (fun c_12 => ?_) (fun c_12 => ?_)
    · have hip := c_5
      have him := c_12
      obtain ⟨j, hjg, hj6, rfl⟩ := isP_ex ho c_5
      obtain ⟨M, hMM, rfl⟩ := isM_ex c_12
      refine a_aload_n hX dX8_held_17 rfl ?_
      refine a_iload_n hX dX8_held_18 rfl ?_
      refine a_aload_n hX dX8_held_19 rfl ?_
      refine gf_X8_97 rfl hX dX8_held_20 ?_
      rw [hD.1.1]
      refine a_callV [_, _] hX c_X8_tellAgain mi_X8_tellAgain mv_X8_tellAgain se_X8_tellAgain (klt rfl (by decide)) (adr_lt (kd_lt rfl (by decide))) (cell_8 rfl) rfl li_X8_140 (by decide) rfl rfl (Nat.le_of_ble_eq_true rfl) (fun q => q) dX8_held_23 ⟨g, _, _, rfl, hD, ho, hj6, ho.1.2.2, ?_⟩
      intro w23 h23 hm23
      rw [kn_all ho] at hm23
      have hm23 : MP w23 (RSn g) j := hm23
      have hD23 := hD.s h23
      refine a_bipush (120) hX dX8_held_26 (by decide) ?_
      refine a_iload_n hX dX8_held_28 rfl ?_
      refine a_imul hX dX8_held_29 ?_
      refine a_iload_n hX dX8_held_30 rfl ?_
      refine a_iadd hX dX8_held_31 ?_
      rw [n120]
      have hc := hm23.2.1 j hj6 M hMM
      have hrow := hc.row ho.n.2 hj6 hMM
      have hm0 : mo (RSn g) (nI j) (nI M) 0 = (RSn g).2.1 j M 0 := by unfold mo; rw [ix_nI (by omega), ix_nI (by omega)]
      have hm1 : mo (RSn g) (nI j) (nI M) 1 = (RSn g).2.1 j M 1 := by unfold mo; rw [ix_nI (by omega), ix_nI (by omega)]
      have hrS : rowS (RSn g) (nI j) (nI M) ↔ ((RSn g).2.1 j M 0 = 1 ∨ (RSn g).2.1 j M 0 = 2) := by unfold rowS; rw [hm0]
      have hcr := hc.2
      have e128 : (-(127 : Int32)) - 1 = -128 := by decide
      have e768 : (-(32767 : Int32)) - 1 = -32768 := by decide
      have hwd : ((RSn g).2.1 j M 0 = 1 ∨ (RSn g).2.1 j M 0 = 2) → (w23.1 234 (120 * j + M) = 0 ↔ ¬ (RSn g).2.1 j M 0 = 2) := fun z => by
        rw [(hcr z).1]
        split
        · next q => exact ⟨fun y => absurd y (by decide), fun y => absurd q y⟩
        · next q => exact ⟨fun _ => q, fun _ => rfl⟩
      have hsz : ((RSn g).2.1 j M 0 = 1 ∨ (RSn g).2.1 j M 0 = 2) → w23.1 235 (120 * j + M) = (RSn g).2.1 j M 1 := fun z => (hcr z).2.1
      clear hcr
      refine a_istore (ls' := [_, _, _, _, _, _, _, _]) hX dX8_held_32 (Nat.le_of_ble_eq_true rfl) rfl ?_
      refine a_aload_n hX dX8_held_34 rfl ?_
      refine gf_X8_47 rfl hX dX8_held_35 ?_
      refine a_iload hX dX8_held_38 rfl ?_
      refine a_iald ((120 * j + M)) hX rfl rfl (show _ < 720 by omega) dX8_held_40 ?_
      refine a_iconst (1) hX dX8_held_41 (by decide) ?_
      refine a_icmp_ne 49 hX dX8_held_42 (by decide) (fun c_42 => ?_) (fun c_42 => ?_)
      · refine a_iconst (0) hX dX8_held_49 (by decide) ?_
        refine a_istore (ls' := [_, _, _, _, _, _, _, _]) hX dX8_held_50 (Nat.le_of_ble_eq_true rfl) rfl ?_
        refine a_iload hX dX8_held_52 rfl ?_
        refine a_if_eq 73 hX dX8_held_54 (by decide) (fun c_54 => ?_) (fun c_54 => ?_)
        · refine a_bipush (127) hX dX8_held_73 (by decide) ?_
          refine a_istore (ls' := [_, _, _, _, _, _, _, _]) hX dX8_held_75 (Nat.le_of_ble_eq_true rfl) rfl ?_
          refine a_iload hX dX8_held_77 rfl ?_
          refine a_if_eq 101 hX dX8_held_79 (by decide) (fun c_79 => ?_) (fun c_79 => ?_)
          · refine a_iload hX dX8_held_101 rfl ?_
            refine a_if_eq 121 hX dX8_held_103 (by decide) (fun c_103 => ?_) (fun c_103 => ?_)
            · refine a_bipush (6) hX dX8_held_121 (by decide) ?_
              refine a_goto 139 hX dX8_held_123 (by decide) ?_
              refine a_iret hX hR dX8_held_139 ⟨Nat.le_refl _, Nat.le_refl _⟩ rfl ?_
              first
              | exact fin_g8 h (by unfold heldS; rw [if_neg (not_not_intro ⟨hip, him⟩), if_neg (by rw [hrS, hm0]; grind), if_neg (by rw [hrS, hm1]; grind)]) hDC (h23.C.tr hmC)
              | exact fin_o8 h (by unfold heldS; rw [if_neg (not_not_intro ⟨hip, him⟩), if_neg (by rw [hrS, hm0]; grind), if_pos (by rw [hrS, hm1]; grind)]) hD23 h23.C
            · refine a_iload_n hX dX8_held_106 rfl ?_
              refine a_if_lt 121 hX dX8_held_107 (by decide) (fun c_107 => ?_) (fun c_107 => ?_)
              · refine a_bipush (6) hX dX8_held_121 (by decide) ?_
                refine a_goto 139 hX dX8_held_123 (by decide) ?_
                refine a_iret hX hR dX8_held_139 ⟨Nat.le_refl _, Nat.le_refl _⟩ rfl ?_
                first
                | exact fin_g8 h (by unfold heldS; rw [if_neg (not_not_intro ⟨hip, him⟩), if_neg (by rw [hrS, hm0]; grind), if_neg (by rw [hrS, hm1]; grind)]) hDC (h23.C.tr hmC)
                | exact fin_o8 h (by unfold heldS; rw [if_neg (not_not_intro ⟨hip, him⟩), if_neg (by rw [hrS, hm0]; grind), if_pos (by rw [hrS, hm1]; grind)]) hD23 h23.C
              · refine a_iload_n hX dX8_held_110 rfl ?_
                refine a_aload_n hX dX8_held_111 rfl ?_
                refine gf_X8_54 rfl hX dX8_held_112 ?_
                refine a_iload hX dX8_held_115 rfl ?_
                refine a_iald ((120 * j + M)) hX rfl rfl (show _ < 720 by omega) dX8_held_117 ?_
                refine a_icmp_lt 126 hX dX8_held_118 (by decide) (fun c_118 => ?_) (fun c_118 => ?_)
                · refine a_aload_n hX dX8_held_126 rfl ?_
                  refine a_bipush (6) hX dX8_held_127 (by decide) ?_
                  refine a_iload_n hX dX8_held_129 rfl ?_
                  refine a_iload_n hX dX8_held_130 rfl ?_
                  refine a_iload_n hX dX8_held_131 rfl ?_
                  refine a_iload hX dX8_held_132 rfl ?_
                  refine a_iconst (0) hX dX8_held_134 (by decide) ?_
                  refine a_iconst (0) hX dX8_held_135 (by decide) ?_
                  refine a_callV [_, _, _, _, _, _, _] hX c_X8_comes mi_X8_comes mv_X8_comes se_X8_comes (klt rfl (by decide)) (adr_lt (kd_lt rfl (by decide))) (cell_8 rfl) rfl li_X8_159 (by decide) rfl rfl (Nat.le_of_ble_eq_true rfl) (fun q => q) dX8_held_136 ⟨g, _, _, _, _, _, _, _, 0, rfl, hD23, ho, (fun z => absurd z (by decide)), ?_⟩
                  intro wC hDC hmC
                  refine a_iret hX hR dX8_held_139 ⟨Nat.le_refl _, Nat.le_refl _⟩ rfl ?_
                  first
                  | exact fin_g8 h (by unfold heldS; rw [if_neg (not_not_intro ⟨hip, him⟩), if_neg (by rw [hrS, hm0]; grind), if_neg (by rw [hrS, hm1]; grind)]) hDC (h23.C.tr hmC)
                  | exact fin_o8 h (by unfold heldS; rw [if_neg (not_not_intro ⟨hip, him⟩), if_neg (by rw [hrS, hm0]; grind), if_pos (by rw [hrS, hm1]; grind)]) hD23 h23.C
                · refine a_bipush (6) hX dX8_held_121 (by decide) ?_
                  refine a_goto 139 hX dX8_held_123 (by decide) ?_
                  refine a_iret hX hR dX8_held_139 ⟨Nat.le_refl _, Nat.le_refl _⟩ rfl ?_
                  first
                  | exact fin_g8 h (by unfold heldS; rw [if_neg (not_not_intro ⟨hip, him⟩), if_neg (by rw [hrS, hm0]; grind), if_neg (by rw [hrS, hm1]; grind)]) hDC (h23.C.tr hmC)
                  | exact fin_o8 h (by unfold heldS; rw [if_neg (not_not_intro ⟨hip, him⟩), if_neg (by rw [hrS, hm0]; grind), if_pos (by rw [hrS, hm1]; grind)]) hD23 h23.C
          · refine a_iload hX dX8_held_82 rfl ?_
            refine a_iload hX dX8_held_84 rfl ?_
            refine a_icmp_gt 99 hX dX8_held_86 (by decide) (fun c_86 => ?_) (fun c_86 => ?_)
            · refine a_iconst (3) hX dX8_held_99 (by decide) ?_
              refine a_iret hX hR dX8_held_100 ⟨Nat.le_refl _, Nat.le_refl _⟩ rfl ?_
              exact fin_o8 h (by unfold heldS; rw [if_neg (not_not_intro ⟨hip, him⟩), if_pos (by rw [hrS, hm0]; grind)]) hD23 h23.C
            · refine a_iload hX dX8_held_89 rfl ?_
              refine a_iload hX dX8_held_91 rfl ?_
              refine a_ineg hX dX8_held_93 ?_
              refine a_iconst (1) hX dX8_held_94 (by decide) ?_
              refine a_isub hX dX8_held_95 ?_
              first | rw [e128] | rw [e768]
              refine a_icmp_ge 101 hX dX8_held_96 (by decide) (fun c_96 => ?_) (fun c_96 => ?_)
              · refine a_iload hX dX8_held_101 rfl ?_
                refine a_if_eq 121 hX dX8_held_103 (by decide) (fun c_103 => ?_) (fun c_103 => ?_)
                · refine a_bipush (6) hX dX8_held_121 (by decide) ?_
                  refine a_goto 139 hX dX8_held_123 (by decide) ?_
                  refine a_iret hX hR dX8_held_139 ⟨Nat.le_refl _, Nat.le_refl _⟩ rfl ?_
                  first
                  | exact fin_g8 h (by unfold heldS; rw [if_neg (not_not_intro ⟨hip, him⟩), if_neg (by rw [hrS, hm0]; grind), if_neg (by rw [hrS, hm1]; grind)]) hDC (h23.C.tr hmC)
                  | exact fin_o8 h (by unfold heldS; rw [if_neg (not_not_intro ⟨hip, him⟩), if_neg (by rw [hrS, hm0]; grind), if_pos (by rw [hrS, hm1]; grind)]) hD23 h23.C
                · refine a_iload_n hX dX8_held_106 rfl ?_
                  refine a_if_lt 121 hX dX8_held_107 (by decide) (fun c_107 => ?_) (fun c_107 => ?_)
                  · refine a_bipush (6) hX dX8_held_121 (by decide) ?_
                    refine a_goto 139 hX dX8_held_123 (by decide) ?_
                    refine a_iret hX hR dX8_held_139 ⟨Nat.le_refl _, Nat.le_refl _⟩ rfl ?_
                    first
                    | exact fin_g8 h (by unfold heldS; rw [if_neg (not_not_intro ⟨hip, him⟩), if_neg (by rw [hrS, hm0]; grind), if_neg (by rw [hrS, hm1]; grind)]) hDC (h23.C.tr hmC)
                    | exact fin_o8 h (by unfold heldS; rw [if_neg (not_not_intro ⟨hip, him⟩), if_neg (by rw [hrS, hm0]; grind), if_pos (by rw [hrS, hm1]; grind)]) hD23 h23.C
                  · refine a_iload_n hX dX8_held_110 rfl ?_
                    refine a_aload_n hX dX8_held_111 rfl ?_
                    refine gf_X8_54 rfl hX dX8_held_112 ?_
                    refine a_iload hX dX8_held_115 rfl ?_
                    refine a_iald ((120 * j + M)) hX rfl rfl (show _ < 720 by omega) dX8_held_117 ?_
                    refine a_icmp_lt 126 hX dX8_held_118 (by decide) (fun c_118 => ?_) (fun c_118 => ?_)
                    · refine a_aload_n hX dX8_held_126 rfl ?_
                      refine a_bipush (6) hX dX8_held_127 (by decide) ?_
                      refine a_iload_n hX dX8_held_129 rfl ?_
                      refine a_iload_n hX dX8_held_130 rfl ?_
                      refine a_iload_n hX dX8_held_131 rfl ?_
                      refine a_iload hX dX8_held_132 rfl ?_
                      refine a_iconst (0) hX dX8_held_134 (by decide) ?_
                      refine a_iconst (0) hX dX8_held_135 (by decide) ?_
                      refine a_callV [_, _, _, _, _, _, _] hX c_X8_comes mi_X8_comes mv_X8_comes se_X8_comes (klt rfl (by decide)) (adr_lt (kd_lt rfl (by decide))) (cell_8 rfl) rfl li_X8_159 (by decide) rfl rfl (Nat.le_of_ble_eq_true rfl) (fun q => q) dX8_held_136 ⟨g, _, _, _, _, _, _, _, 0, rfl, hD23, ho, (fun z => absurd z (by decide)), ?_⟩
                      intro wC hDC hmC
                      refine a_iret hX hR dX8_held_139 ⟨Nat.le_refl _, Nat.le_refl _⟩ rfl ?_
                      first
                      | exact fin_g8 h (by unfold heldS; rw [if_neg (not_not_intro ⟨hip, him⟩), if_neg (by rw [hrS, hm0]; grind), if_neg (by rw [hrS, hm1]; grind)]) hDC (h23.C.tr hmC)
                      | exact fin_o8 h (by unfold heldS; rw [if_neg (not_not_intro ⟨hip, him⟩), if_neg (by rw [hrS, hm0]; grind), if_pos (by rw [hrS, hm1]; grind)]) hD23 h23.C
                    · refine a_bipush (6) hX dX8_held_121 (by decide) ?_
                      refine a_goto 139 hX dX8_held_123 (by decide) ?_
                      refine a_iret hX hR dX8_held_139 ⟨Nat.le_refl _, Nat.le_refl _⟩ rfl ?_
                      first
                      | exact fin_g8 h (by unfold heldS; rw [if_neg (not_not_intro ⟨hip, him⟩), if_neg (by rw [hrS, hm0]; grind), if_neg (by rw [hrS, hm1]; grind)]) hDC (h23.C.tr hmC)
                      | exact fin_o8 h (by unfold heldS; rw [if_neg (not_not_intro ⟨hip, him⟩), if_neg (by rw [hrS, hm0]; grind), if_pos (by rw [hrS, hm1]; grind)]) hD23 h23.C
              · refine a_iconst (3) hX dX8_held_99 (by decide) ?_
                refine a_iret hX hR dX8_held_100 ⟨Nat.le_refl _, Nat.le_refl _⟩ rfl ?_
                exact fin_o8 h (by unfold heldS; rw [if_neg (not_not_intro ⟨hip, him⟩), if_pos (by rw [hrS, hm0]; grind)]) hD23 h23.C
        · refine a_aload_n hX dX8_held_57 rfl ?_
          refine gf_X8_50 rfl hX dX8_held_58 ?_
          refine a_iload hX dX8_held_61 rfl ?_
          refine a_zald ((120 * j + M)) hX rfl rfl (show _ < 720 by omega) dX8_held_63 ?_
          refine a_if_eq 73 hX dX8_held_64 (by decide) (fun c_64 => ?_) (fun c_64 => ?_)
          · refine a_bipush (127) hX dX8_held_73 (by decide) ?_
            refine a_istore (ls' := [_, _, _, _, _, _, _, _]) hX dX8_held_75 (Nat.le_of_ble_eq_true rfl) rfl ?_
            refine a_iload hX dX8_held_77 rfl ?_
            refine a_if_eq 101 hX dX8_held_79 (by decide) (fun c_79 => ?_) (fun c_79 => ?_)
            · refine a_iload hX dX8_held_101 rfl ?_
              refine a_if_eq 121 hX dX8_held_103 (by decide) (fun c_103 => ?_) (fun c_103 => ?_)
              · refine a_bipush (6) hX dX8_held_121 (by decide) ?_
                refine a_goto 139 hX dX8_held_123 (by decide) ?_
                refine a_iret hX hR dX8_held_139 ⟨Nat.le_refl _, Nat.le_refl _⟩ rfl ?_
                first
                | exact fin_g8 h (by unfold heldS; rw [if_neg (not_not_intro ⟨hip, him⟩), if_neg (by rw [hrS, hm0]; grind), if_neg (by rw [hrS, hm1]; grind)]) hDC (h23.C.tr hmC)
                | exact fin_o8 h (by unfold heldS; rw [if_neg (not_not_intro ⟨hip, him⟩), if_neg (by rw [hrS, hm0]; grind), if_pos (by rw [hrS, hm1]; grind)]) hD23 h23.C
              · refine a_iload_n hX dX8_held_106 rfl ?_
                refine a_if_lt 121 hX dX8_held_107 (by decide) (fun c_107 => ?_) (fun c_107 => ?_)
                · refine a_bipush (6) hX dX8_held_121 (by decide) ?_
                  refine a_goto 139 hX dX8_held_123 (by decide) ?_
                  refine a_iret hX hR dX8_held_139 ⟨Nat.le_refl _, Nat.le_refl _⟩ rfl ?_
                  first
                  | exact fin_g8 h (by unfold heldS; rw [if_neg (not_not_intro ⟨hip, him⟩), if_neg (by rw [hrS, hm0]; grind), if_neg (by rw [hrS, hm1]; grind)]) hDC (h23.C.tr hmC)
                  | exact fin_o8 h (by unfold heldS; rw [if_neg (not_not_intro ⟨hip, him⟩), if_neg (by rw [hrS, hm0]; grind), if_pos (by rw [hrS, hm1]; grind)]) hD23 h23.C
                · refine a_iload_n hX dX8_held_110 rfl ?_
                  refine a_aload_n hX dX8_held_111 rfl ?_
                  refine gf_X8_54 rfl hX dX8_held_112 ?_
                  refine a_iload hX dX8_held_115 rfl ?_
                  refine a_iald ((120 * j + M)) hX rfl rfl (show _ < 720 by omega) dX8_held_117 ?_
                  refine a_icmp_lt 126 hX dX8_held_118 (by decide) (fun c_118 => ?_) (fun c_118 => ?_)
                  · refine a_aload_n hX dX8_held_126 rfl ?_
                    refine a_bipush (6) hX dX8_held_127 (by decide) ?_
                    refine a_iload_n hX dX8_held_129 rfl ?_
                    refine a_iload_n hX dX8_held_130 rfl ?_
                    refine a_iload_n hX dX8_held_131 rfl ?_
                    refine a_iload hX dX8_held_132 rfl ?_
                    refine a_iconst (0) hX dX8_held_134 (by decide) ?_
                    refine a_iconst (0) hX dX8_held_135 (by decide) ?_
                    refine a_callV [_, _, _, _, _, _, _] hX c_X8_comes mi_X8_comes mv_X8_comes se_X8_comes (klt rfl (by decide)) (adr_lt (kd_lt rfl (by decide))) (cell_8 rfl) rfl li_X8_159 (by decide) rfl rfl (Nat.le_of_ble_eq_true rfl) (fun q => q) dX8_held_136 ⟨g, _, _, _, _, _, _, _, 0, rfl, hD23, ho, (fun z => absurd z (by decide)), ?_⟩
                    intro wC hDC hmC
                    refine a_iret hX hR dX8_held_139 ⟨Nat.le_refl _, Nat.le_refl _⟩ rfl ?_
                    first
                    | exact fin_g8 h (by unfold heldS; rw [if_neg (not_not_intro ⟨hip, him⟩), if_neg (by rw [hrS, hm0]; grind), if_neg (by rw [hrS, hm1]; grind)]) hDC (h23.C.tr hmC)
                    | exact fin_o8 h (by unfold heldS; rw [if_neg (not_not_intro ⟨hip, him⟩), if_neg (by rw [hrS, hm0]; grind), if_pos (by rw [hrS, hm1]; grind)]) hD23 h23.C
                  · refine a_bipush (6) hX dX8_held_121 (by decide) ?_
                    refine a_goto 139 hX dX8_held_123 (by decide) ?_
                    refine a_iret hX hR dX8_held_139 ⟨Nat.le_refl _, Nat.le_refl _⟩ rfl ?_
                    first
                    | exact fin_g8 h (by unfold heldS; rw [if_neg (not_not_intro ⟨hip, him⟩), if_neg (by rw [hrS, hm0]; grind), if_neg (by rw [hrS, hm1]; grind)]) hDC (h23.C.tr hmC)
                    | exact fin_o8 h (by unfold heldS; rw [if_neg (not_not_intro ⟨hip, him⟩), if_neg (by rw [hrS, hm0]; grind), if_pos (by rw [hrS, hm1]; grind)]) hD23 h23.C
            · refine a_iload hX dX8_held_82 rfl ?_
              refine a_iload hX dX8_held_84 rfl ?_
              refine a_icmp_gt 99 hX dX8_held_86 (by decide) (fun c_86 => ?_) (fun c_86 => ?_)
              · refine a_iconst (3) hX dX8_held_99 (by decide) ?_
                refine a_iret hX hR dX8_held_100 ⟨Nat.le_refl _, Nat.le_refl _⟩ rfl ?_
                exact fin_o8 h (by unfold heldS; rw [if_neg (not_not_intro ⟨hip, him⟩), if_pos (by rw [hrS, hm0]; grind)]) hD23 h23.C
              · refine a_iload hX dX8_held_89 rfl ?_
                refine a_iload hX dX8_held_91 rfl ?_
                refine a_ineg hX dX8_held_93 ?_
                refine a_iconst (1) hX dX8_held_94 (by decide) ?_
                refine a_isub hX dX8_held_95 ?_
                first | rw [e128] | rw [e768]
                refine a_icmp_ge 101 hX dX8_held_96 (by decide) (fun c_96 => ?_) (fun c_96 => ?_)
                · refine a_iload hX dX8_held_101 rfl ?_
                  refine a_if_eq 121 hX dX8_held_103 (by decide) (fun c_103 => ?_) (fun c_103 => ?_)
                  · refine a_bipush (6) hX dX8_held_121 (by decide) ?_
                    refine a_goto 139 hX dX8_held_123 (by decide) ?_
                    refine a_iret hX hR dX8_held_139 ⟨Nat.le_refl _, Nat.le_refl _⟩ rfl ?_
                    first
                    | exact fin_g8 h (by unfold heldS; rw [if_neg (not_not_intro ⟨hip, him⟩), if_neg (by rw [hrS, hm0]; grind), if_neg (by rw [hrS, hm1]; grind)]) hDC (h23.C.tr hmC)
                    | exact fin_o8 h (by unfold heldS; rw [if_neg (not_not_intro ⟨hip, him⟩), if_neg (by rw [hrS, hm0]; grind), if_pos (by rw [hrS, hm1]; grind)]) hD23 h23.C
                  · refine a_iload_n hX dX8_held_106 rfl ?_
                    refine a_if_lt 121 hX dX8_held_107 (by decide) (fun c_107 => ?_) (fun c_107 => ?_)
                    · refine a_bipush (6) hX dX8_held_121 (by decide) ?_
                      refine a_goto 139 hX dX8_held_123 (by decide) ?_
                      refine a_iret hX hR dX8_held_139 ⟨Nat.le_refl _, Nat.le_refl _⟩ rfl ?_
                      first
                      | exact fin_g8 h (by unfold heldS; rw [if_neg (not_not_intro ⟨hip, him⟩), if_neg (by rw [hrS, hm0]; grind), if_neg (by rw [hrS, hm1]; grind)]) hDC (h23.C.tr hmC)
                      | exact fin_o8 h (by unfold heldS; rw [if_neg (not_not_intro ⟨hip, him⟩), if_neg (by rw [hrS, hm0]; grind), if_pos (by rw [hrS, hm1]; grind)]) hD23 h23.C
                    · refine a_iload_n hX dX8_held_110 rfl ?_
                      refine a_aload_n hX dX8_held_111 rfl ?_
                      refine gf_X8_54 rfl hX dX8_held_112 ?_
                      refine a_iload hX dX8_held_115 rfl ?_
                      refine a_iald ((120 * j + M)) hX rfl rfl (show _ < 720 by omega) dX8_held_117 ?_
                      refine a_icmp_lt 126 hX dX8_held_118 (by decide) (fun c_118 => ?_) (fun c_118 => ?_)
                      · refine a_aload_n hX dX8_held_126 rfl ?_
                        refine a_bipush (6) hX dX8_held_127 (by decide) ?_
                        refine a_iload_n hX dX8_held_129 rfl ?_
                        refine a_iload_n hX dX8_held_130 rfl ?_
                        refine a_iload_n hX dX8_held_131 rfl ?_
                        refine a_iload hX dX8_held_132 rfl ?_
                        refine a_iconst (0) hX dX8_held_134 (by decide) ?_
                        refine a_iconst (0) hX dX8_held_135 (by decide) ?_
                        refine a_callV [_, _, _, _, _, _, _] hX c_X8_comes mi_X8_comes mv_X8_comes se_X8_comes (klt rfl (by decide)) (adr_lt (kd_lt rfl (by decide))) (cell_8 rfl) rfl li_X8_159 (by decide) rfl rfl (Nat.le_of_ble_eq_true rfl) (fun q => q) dX8_held_136 ⟨g, _, _, _, _, _, _, _, 0, rfl, hD23, ho, (fun z => absurd z (by decide)), ?_⟩
                        intro wC hDC hmC
                        refine a_iret hX hR dX8_held_139 ⟨Nat.le_refl _, Nat.le_refl _⟩ rfl ?_
                        first
                        | exact fin_g8 h (by unfold heldS; rw [if_neg (not_not_intro ⟨hip, him⟩), if_neg (by rw [hrS, hm0]; grind), if_neg (by rw [hrS, hm1]; grind)]) hDC (h23.C.tr hmC)
                        | exact fin_o8 h (by unfold heldS; rw [if_neg (not_not_intro ⟨hip, him⟩), if_neg (by rw [hrS, hm0]; grind), if_pos (by rw [hrS, hm1]; grind)]) hD23 h23.C
                      · refine a_bipush (6) hX dX8_held_121 (by decide) ?_
                        refine a_goto 139 hX dX8_held_123 (by decide) ?_
                        refine a_iret hX hR dX8_held_139 ⟨Nat.le_refl _, Nat.le_refl _⟩ rfl ?_
                        first
                        | exact fin_g8 h (by unfold heldS; rw [if_neg (not_not_intro ⟨hip, him⟩), if_neg (by rw [hrS, hm0]; grind), if_neg (by rw [hrS, hm1]; grind)]) hDC (h23.C.tr hmC)
                        | exact fin_o8 h (by unfold heldS; rw [if_neg (not_not_intro ⟨hip, him⟩), if_neg (by rw [hrS, hm0]; grind), if_pos (by rw [hrS, hm1]; grind)]) hD23 h23.C
                · refine a_iconst (3) hX dX8_held_99 (by decide) ?_
                  refine a_iret hX hR dX8_held_100 ⟨Nat.le_refl _, Nat.le_refl _⟩ rfl ?_
                  exact fin_o8 h (by unfold heldS; rw [if_neg (not_not_intro ⟨hip, him⟩), if_pos (by rw [hrS, hm0]; grind)]) hD23 h23.C
          · refine a_sipush (32767) hX dX8_held_67 (by decide) ?_
            refine a_goto 75 hX dX8_held_70 (by decide) ?_
            refine a_istore (ls' := [_, _, _, _, _, _, _, _]) hX dX8_held_75 (Nat.le_of_ble_eq_true rfl) rfl ?_
            refine a_iload hX dX8_held_77 rfl ?_
            refine a_if_eq 101 hX dX8_held_79 (by decide) (fun c_79 => ?_) (fun c_79 => ?_)
            · refine a_iload hX dX8_held_101 rfl ?_
              refine a_if_eq 121 hX dX8_held_103 (by decide) (fun c_103 => ?_) (fun c_103 => ?_)
              · refine a_bipush (6) hX dX8_held_121 (by decide) ?_
                refine a_goto 139 hX dX8_held_123 (by decide) ?_
                refine a_iret hX hR dX8_held_139 ⟨Nat.le_refl _, Nat.le_refl _⟩ rfl ?_
                first
                | exact fin_g8 h (by unfold heldS; rw [if_neg (not_not_intro ⟨hip, him⟩), if_neg (by rw [hrS, hm0]; grind), if_neg (by rw [hrS, hm1]; grind)]) hDC (h23.C.tr hmC)
                | exact fin_o8 h (by unfold heldS; rw [if_neg (not_not_intro ⟨hip, him⟩), if_neg (by rw [hrS, hm0]; grind), if_pos (by rw [hrS, hm1]; grind)]) hD23 h23.C
              · refine a_iload_n hX dX8_held_106 rfl ?_
                refine a_if_lt 121 hX dX8_held_107 (by decide) (fun c_107 => ?_) (fun c_107 => ?_)
                · refine a_bipush (6) hX dX8_held_121 (by decide) ?_
                  refine a_goto 139 hX dX8_held_123 (by decide) ?_
                  refine a_iret hX hR dX8_held_139 ⟨Nat.le_refl _, Nat.le_refl _⟩ rfl ?_
                  first
                  | exact fin_g8 h (by unfold heldS; rw [if_neg (not_not_intro ⟨hip, him⟩), if_neg (by rw [hrS, hm0]; grind), if_neg (by rw [hrS, hm1]; grind)]) hDC (h23.C.tr hmC)
                  | exact fin_o8 h (by unfold heldS; rw [if_neg (not_not_intro ⟨hip, him⟩), if_neg (by rw [hrS, hm0]; grind), if_pos (by rw [hrS, hm1]; grind)]) hD23 h23.C
                · refine a_iload_n hX dX8_held_110 rfl ?_
                  refine a_aload_n hX dX8_held_111 rfl ?_
                  refine gf_X8_54 rfl hX dX8_held_112 ?_
                  refine a_iload hX dX8_held_115 rfl ?_
                  refine a_iald ((120 * j + M)) hX rfl rfl (show _ < 720 by omega) dX8_held_117 ?_
                  refine a_icmp_lt 126 hX dX8_held_118 (by decide) (fun c_118 => ?_) (fun c_118 => ?_)
                  · refine a_aload_n hX dX8_held_126 rfl ?_
                    refine a_bipush (6) hX dX8_held_127 (by decide) ?_
                    refine a_iload_n hX dX8_held_129 rfl ?_
                    refine a_iload_n hX dX8_held_130 rfl ?_
                    refine a_iload_n hX dX8_held_131 rfl ?_
                    refine a_iload hX dX8_held_132 rfl ?_
                    refine a_iconst (0) hX dX8_held_134 (by decide) ?_
                    refine a_iconst (0) hX dX8_held_135 (by decide) ?_
                    refine a_callV [_, _, _, _, _, _, _] hX c_X8_comes mi_X8_comes mv_X8_comes se_X8_comes (klt rfl (by decide)) (adr_lt (kd_lt rfl (by decide))) (cell_8 rfl) rfl li_X8_159 (by decide) rfl rfl (Nat.le_of_ble_eq_true rfl) (fun q => q) dX8_held_136 ⟨g, _, _, _, _, _, _, _, 0, rfl, hD23, ho, (fun z => absurd z (by decide)), ?_⟩
                    intro wC hDC hmC
                    refine a_iret hX hR dX8_held_139 ⟨Nat.le_refl _, Nat.le_refl _⟩ rfl ?_
                    first
                    | exact fin_g8 h (by unfold heldS; rw [if_neg (not_not_intro ⟨hip, him⟩), if_neg (by rw [hrS, hm0]; grind), if_neg (by rw [hrS, hm1]; grind)]) hDC (h23.C.tr hmC)
                    | exact fin_o8 h (by unfold heldS; rw [if_neg (not_not_intro ⟨hip, him⟩), if_neg (by rw [hrS, hm0]; grind), if_pos (by rw [hrS, hm1]; grind)]) hD23 h23.C
                  · refine a_bipush (6) hX dX8_held_121 (by decide) ?_
                    refine a_goto 139 hX dX8_held_123 (by decide) ?_
                    refine a_iret hX hR dX8_held_139 ⟨Nat.le_refl _, Nat.le_refl _⟩ rfl ?_
                    first
                    | exact fin_g8 h (by unfold heldS; rw [if_neg (not_not_intro ⟨hip, him⟩), if_neg (by rw [hrS, hm0]; grind), if_neg (by rw [hrS, hm1]; grind)]) hDC (h23.C.tr hmC)
                    | exact fin_o8 h (by unfold heldS; rw [if_neg (not_not_intro ⟨hip, him⟩), if_neg (by rw [hrS, hm0]; grind), if_pos (by rw [hrS, hm1]; grind)]) hD23 h23.C
            · refine a_iload hX dX8_held_82 rfl ?_
              refine a_iload hX dX8_held_84 rfl ?_
              refine a_icmp_gt 99 hX dX8_held_86 (by decide) (fun c_86 => ?_) (fun c_86 => ?_)
              · refine a_iconst (3) hX dX8_held_99 (by decide) ?_
                refine a_iret hX hR dX8_held_100 ⟨Nat.le_refl _, Nat.le_refl _⟩ rfl ?_
                exact fin_o8 h (by unfold heldS; rw [if_neg (not_not_intro ⟨hip, him⟩), if_pos (by rw [hrS, hm0]; grind)]) hD23 h23.C
              · refine a_iload hX dX8_held_89 rfl ?_
                refine a_iload hX dX8_held_91 rfl ?_
                refine a_ineg hX dX8_held_93 ?_
                refine a_iconst (1) hX dX8_held_94 (by decide) ?_
                refine a_isub hX dX8_held_95 ?_
                first | rw [e128] | rw [e768]
                refine a_icmp_ge 101 hX dX8_held_96 (by decide) (fun c_96 => ?_) (fun c_96 => ?_)
                · refine a_iload hX dX8_held_101 rfl ?_
                  refine a_if_eq 121 hX dX8_held_103 (by decide) (fun c_103 => ?_) (fun c_103 => ?_)
                  · refine a_bipush (6) hX dX8_held_121 (by decide) ?_
                    refine a_goto 139 hX dX8_held_123 (by decide) ?_
                    refine a_iret hX hR dX8_held_139 ⟨Nat.le_refl _, Nat.le_refl _⟩ rfl ?_
                    first
                    | exact fin_g8 h (by unfold heldS; rw [if_neg (not_not_intro ⟨hip, him⟩), if_neg (by rw [hrS, hm0]; grind), if_neg (by rw [hrS, hm1]; grind)]) hDC (h23.C.tr hmC)
                    | exact fin_o8 h (by unfold heldS; rw [if_neg (not_not_intro ⟨hip, him⟩), if_neg (by rw [hrS, hm0]; grind), if_pos (by rw [hrS, hm1]; grind)]) hD23 h23.C
                  · refine a_iload_n hX dX8_held_106 rfl ?_
                    refine a_if_lt 121 hX dX8_held_107 (by decide) (fun c_107 => ?_) (fun c_107 => ?_)
                    · refine a_bipush (6) hX dX8_held_121 (by decide) ?_
                      refine a_goto 139 hX dX8_held_123 (by decide) ?_
                      refine a_iret hX hR dX8_held_139 ⟨Nat.le_refl _, Nat.le_refl _⟩ rfl ?_
                      first
                      | exact fin_g8 h (by unfold heldS; rw [if_neg (not_not_intro ⟨hip, him⟩), if_neg (by rw [hrS, hm0]; grind), if_neg (by rw [hrS, hm1]; grind)]) hDC (h23.C.tr hmC)
                      | exact fin_o8 h (by unfold heldS; rw [if_neg (not_not_intro ⟨hip, him⟩), if_neg (by rw [hrS, hm0]; grind), if_pos (by rw [hrS, hm1]; grind)]) hD23 h23.C
                    · refine a_iload_n hX dX8_held_110 rfl ?_
                      refine a_aload_n hX dX8_held_111 rfl ?_
                      refine gf_X8_54 rfl hX dX8_held_112 ?_
                      refine a_iload hX dX8_held_115 rfl ?_
                      refine a_iald ((120 * j + M)) hX rfl rfl (show _ < 720 by omega) dX8_held_117 ?_
                      refine a_icmp_lt 126 hX dX8_held_118 (by decide) (fun c_118 => ?_) (fun c_118 => ?_)
                      · refine a_aload_n hX dX8_held_126 rfl ?_
                        refine a_bipush (6) hX dX8_held_127 (by decide) ?_
                        refine a_iload_n hX dX8_held_129 rfl ?_
                        refine a_iload_n hX dX8_held_130 rfl ?_
                        refine a_iload_n hX dX8_held_131 rfl ?_
                        refine a_iload hX dX8_held_132 rfl ?_
                        refine a_iconst (0) hX dX8_held_134 (by decide) ?_
                        refine a_iconst (0) hX dX8_held_135 (by decide) ?_
                        refine a_callV [_, _, _, _, _, _, _] hX c_X8_comes mi_X8_comes mv_X8_comes se_X8_comes (klt rfl (by decide)) (adr_lt (kd_lt rfl (by decide))) (cell_8 rfl) rfl li_X8_159 (by decide) rfl rfl (Nat.le_of_ble_eq_true rfl) (fun q => q) dX8_held_136 ⟨g, _, _, _, _, _, _, _, 0, rfl, hD23, ho, (fun z => absurd z (by decide)), ?_⟩
                        intro wC hDC hmC
                        refine a_iret hX hR dX8_held_139 ⟨Nat.le_refl _, Nat.le_refl _⟩ rfl ?_
                        first
                        | exact fin_g8 h (by unfold heldS; rw [if_neg (not_not_intro ⟨hip, him⟩), if_neg (by rw [hrS, hm0]; grind), if_neg (by rw [hrS, hm1]; grind)]) hDC (h23.C.tr hmC)
                        | exact fin_o8 h (by unfold heldS; rw [if_neg (not_not_intro ⟨hip, him⟩), if_neg (by rw [hrS, hm0]; grind), if_pos (by rw [hrS, hm1]; grind)]) hD23 h23.C
                      · refine a_bipush (6) hX dX8_held_121 (by decide) ?_
                        refine a_goto 139 hX dX8_held_123 (by decide) ?_
                        refine a_iret hX hR dX8_held_139 ⟨Nat.le_refl _, Nat.le_refl _⟩ rfl ?_
                        first
                        | exact fin_g8 h (by unfold heldS; rw [if_neg (not_not_intro ⟨hip, him⟩), if_neg (by rw [hrS, hm0]; grind), if_neg (by rw [hrS, hm1]; grind)]) hDC (h23.C.tr hmC)
                        | exact fin_o8 h (by unfold heldS; rw [if_neg (not_not_intro ⟨hip, him⟩), if_neg (by rw [hrS, hm0]; grind), if_pos (by rw [hrS, hm1]; grind)]) hD23 h23.C
                · refine a_iconst (3) hX dX8_held_99 (by decide) ?_
                  refine a_iret hX hR dX8_held_100 ⟨Nat.le_refl _, Nat.le_refl _⟩ rfl ?_
                  exact fin_o8 h (by unfold heldS; rw [if_neg (not_not_intro ⟨hip, him⟩), if_pos (by rw [hrS, hm0]; grind)]) hD23 h23.C
      · refine a_iconst (1) hX dX8_held_45 (by decide) ?_
        refine a_goto 50 hX dX8_held_46 (by decide) ?_
        refine a_istore (ls' := [_, _, _, _, _, _, _, _]) hX dX8_held_50 (Nat.le_of_ble_eq_true rfl) rfl ?_
        refine a_iload hX dX8_held_52 rfl ?_
        refine a_if_eq 73 hX dX8_held_54 (by decide) (fun c_54 => ?_) (fun c_54 => ?_)
        · refine a_bipush (127) hX dX8_held_73 (by decide) ?_
          refine a_istore (ls' := [_, _, _, _, _, _, _, _]) hX dX8_held_75 (Nat.le_of_ble_eq_true rfl) rfl ?_
          refine a_iload hX dX8_held_77 rfl ?_
          refine a_if_eq 101 hX dX8_held_79 (by decide) (fun c_79 => ?_) (fun c_79 => ?_)
          · refine a_iload hX dX8_held_101 rfl ?_
            refine a_if_eq 121 hX dX8_held_103 (by decide) (fun c_103 => ?_) (fun c_103 => ?_)
            · refine a_bipush (6) hX dX8_held_121 (by decide) ?_
              refine a_goto 139 hX dX8_held_123 (by decide) ?_
              refine a_iret hX hR dX8_held_139 ⟨Nat.le_refl _, Nat.le_refl _⟩ rfl ?_
              first
              | exact fin_g8 h (by unfold heldS; rw [if_neg (not_not_intro ⟨hip, him⟩), if_neg (by rw [hrS, hm0]; grind), if_neg (by rw [hrS, hm1]; grind)]) hDC (h23.C.tr hmC)
              | exact fin_o8 h (by unfold heldS; rw [if_neg (not_not_intro ⟨hip, him⟩), if_neg (by rw [hrS, hm0]; grind), if_pos (by rw [hrS, hm1]; grind)]) hD23 h23.C
            · refine a_iload_n hX dX8_held_106 rfl ?_
              refine a_if_lt 121 hX dX8_held_107 (by decide) (fun c_107 => ?_) (fun c_107 => ?_)
              · refine a_bipush (6) hX dX8_held_121 (by decide) ?_
                refine a_goto 139 hX dX8_held_123 (by decide) ?_
                refine a_iret hX hR dX8_held_139 ⟨Nat.le_refl _, Nat.le_refl _⟩ rfl ?_
                first
                | exact fin_g8 h (by unfold heldS; rw [if_neg (not_not_intro ⟨hip, him⟩), if_neg (by rw [hrS, hm0]; grind), if_neg (by rw [hrS, hm1]; grind)]) hDC (h23.C.tr hmC)
                | exact fin_o8 h (by unfold heldS; rw [if_neg (not_not_intro ⟨hip, him⟩), if_neg (by rw [hrS, hm0]; grind), if_pos (by rw [hrS, hm1]; grind)]) hD23 h23.C
              · refine a_iload_n hX dX8_held_110 rfl ?_
                refine a_aload_n hX dX8_held_111 rfl ?_
                refine gf_X8_54 rfl hX dX8_held_112 ?_
                refine a_iload hX dX8_held_115 rfl ?_
                refine a_iald ((120 * j + M)) hX rfl rfl (show _ < 720 by omega) dX8_held_117 ?_
                refine a_icmp_lt 126 hX dX8_held_118 (by decide) (fun c_118 => ?_) (fun c_118 => ?_)
                · refine a_aload_n hX dX8_held_126 rfl ?_
                  refine a_bipush (6) hX dX8_held_127 (by decide) ?_
                  refine a_iload_n hX dX8_held_129 rfl ?_
                  refine a_iload_n hX dX8_held_130 rfl ?_
                  refine a_iload_n hX dX8_held_131 rfl ?_
                  refine a_iload hX dX8_held_132 rfl ?_
                  refine a_iconst (0) hX dX8_held_134 (by decide) ?_
                  refine a_iconst (0) hX dX8_held_135 (by decide) ?_
                  refine a_callV [_, _, _, _, _, _, _] hX c_X8_comes mi_X8_comes mv_X8_comes se_X8_comes (klt rfl (by decide)) (adr_lt (kd_lt rfl (by decide))) (cell_8 rfl) rfl li_X8_159 (by decide) rfl rfl (Nat.le_of_ble_eq_true rfl) (fun q => q) dX8_held_136 ⟨g, _, _, _, _, _, _, _, 0, rfl, hD23, ho, (fun z => absurd z (by decide)), ?_⟩
                  intro wC hDC hmC
                  refine a_iret hX hR dX8_held_139 ⟨Nat.le_refl _, Nat.le_refl _⟩ rfl ?_
                  first
                  | exact fin_g8 h (by unfold heldS; rw [if_neg (not_not_intro ⟨hip, him⟩), if_neg (by rw [hrS, hm0]; grind), if_neg (by rw [hrS, hm1]; grind)]) hDC (h23.C.tr hmC)
                  | exact fin_o8 h (by unfold heldS; rw [if_neg (not_not_intro ⟨hip, him⟩), if_neg (by rw [hrS, hm0]; grind), if_pos (by rw [hrS, hm1]; grind)]) hD23 h23.C
                · refine a_bipush (6) hX dX8_held_121 (by decide) ?_
                  refine a_goto 139 hX dX8_held_123 (by decide) ?_
                  refine a_iret hX hR dX8_held_139 ⟨Nat.le_refl _, Nat.le_refl _⟩ rfl ?_
                  first
                  | exact fin_g8 h (by unfold heldS; rw [if_neg (not_not_intro ⟨hip, him⟩), if_neg (by rw [hrS, hm0]; grind), if_neg (by rw [hrS, hm1]; grind)]) hDC (h23.C.tr hmC)
                  | exact fin_o8 h (by unfold heldS; rw [if_neg (not_not_intro ⟨hip, him⟩), if_neg (by rw [hrS, hm0]; grind), if_pos (by rw [hrS, hm1]; grind)]) hD23 h23.C
          · refine a_iload hX dX8_held_82 rfl ?_
            refine a_iload hX dX8_held_84 rfl ?_
            refine a_icmp_gt 99 hX dX8_held_86 (by decide) (fun c_86 => ?_) (fun c_86 => ?_)
            · refine a_iconst (3) hX dX8_held_99 (by decide) ?_
              refine a_iret hX hR dX8_held_100 ⟨Nat.le_refl _, Nat.le_refl _⟩ rfl ?_
              exact fin_o8 h (by unfold heldS; rw [if_neg (not_not_intro ⟨hip, him⟩), if_pos (by rw [hrS, hm0]; grind)]) hD23 h23.C
            · refine a_iload hX dX8_held_89 rfl ?_
              refine a_iload hX dX8_held_91 rfl ?_
              refine a_ineg hX dX8_held_93 ?_
              refine a_iconst (1) hX dX8_held_94 (by decide) ?_
              refine a_isub hX dX8_held_95 ?_
              first | rw [e128] | rw [e768]
              refine a_icmp_ge 101 hX dX8_held_96 (by decide) (fun c_96 => ?_) (fun c_96 => ?_)
              · refine a_iload hX dX8_held_101 rfl ?_
                refine a_if_eq 121 hX dX8_held_103 (by decide) (fun c_103 => ?_) (fun c_103 => ?_)
                · refine a_bipush (6) hX dX8_held_121 (by decide) ?_
                  refine a_goto 139 hX dX8_held_123 (by decide) ?_
                  refine a_iret hX hR dX8_held_139 ⟨Nat.le_refl _, Nat.le_refl _⟩ rfl ?_
                  first
                  | exact fin_g8 h (by unfold heldS; rw [if_neg (not_not_intro ⟨hip, him⟩), if_neg (by rw [hrS, hm0]; grind), if_neg (by rw [hrS, hm1]; grind)]) hDC (h23.C.tr hmC)
                  | exact fin_o8 h (by unfold heldS; rw [if_neg (not_not_intro ⟨hip, him⟩), if_neg (by rw [hrS, hm0]; grind), if_pos (by rw [hrS, hm1]; grind)]) hD23 h23.C
                · refine a_iload_n hX dX8_held_106 rfl ?_
                  refine a_if_lt 121 hX dX8_held_107 (by decide) (fun c_107 => ?_) (fun c_107 => ?_)
                  · refine a_bipush (6) hX dX8_held_121 (by decide) ?_
                    refine a_goto 139 hX dX8_held_123 (by decide) ?_
                    refine a_iret hX hR dX8_held_139 ⟨Nat.le_refl _, Nat.le_refl _⟩ rfl ?_
                    first
                    | exact fin_g8 h (by unfold heldS; rw [if_neg (not_not_intro ⟨hip, him⟩), if_neg (by rw [hrS, hm0]; grind), if_neg (by rw [hrS, hm1]; grind)]) hDC (h23.C.tr hmC)
                    | exact fin_o8 h (by unfold heldS; rw [if_neg (not_not_intro ⟨hip, him⟩), if_neg (by rw [hrS, hm0]; grind), if_pos (by rw [hrS, hm1]; grind)]) hD23 h23.C
                  · refine a_iload_n hX dX8_held_110 rfl ?_
                    refine a_aload_n hX dX8_held_111 rfl ?_
                    refine gf_X8_54 rfl hX dX8_held_112 ?_
                    refine a_iload hX dX8_held_115 rfl ?_
                    refine a_iald ((120 * j + M)) hX rfl rfl (show _ < 720 by omega) dX8_held_117 ?_
                    refine a_icmp_lt 126 hX dX8_held_118 (by decide) (fun c_118 => ?_) (fun c_118 => ?_)
                    · refine a_aload_n hX dX8_held_126 rfl ?_
                      refine a_bipush (6) hX dX8_held_127 (by decide) ?_
                      refine a_iload_n hX dX8_held_129 rfl ?_
                      refine a_iload_n hX dX8_held_130 rfl ?_
                      refine a_iload_n hX dX8_held_131 rfl ?_
                      refine a_iload hX dX8_held_132 rfl ?_
                      refine a_iconst (0) hX dX8_held_134 (by decide) ?_
                      refine a_iconst (0) hX dX8_held_135 (by decide) ?_
                      refine a_callV [_, _, _, _, _, _, _] hX c_X8_comes mi_X8_comes mv_X8_comes se_X8_comes (klt rfl (by decide)) (adr_lt (kd_lt rfl (by decide))) (cell_8 rfl) rfl li_X8_159 (by decide) rfl rfl (Nat.le_of_ble_eq_true rfl) (fun q => q) dX8_held_136 ⟨g, _, _, _, _, _, _, _, 0, rfl, hD23, ho, (fun z => absurd z (by decide)), ?_⟩
                      intro wC hDC hmC
                      refine a_iret hX hR dX8_held_139 ⟨Nat.le_refl _, Nat.le_refl _⟩ rfl ?_
                      first
                      | exact fin_g8 h (by unfold heldS; rw [if_neg (not_not_intro ⟨hip, him⟩), if_neg (by rw [hrS, hm0]; grind), if_neg (by rw [hrS, hm1]; grind)]) hDC (h23.C.tr hmC)
                      | exact fin_o8 h (by unfold heldS; rw [if_neg (not_not_intro ⟨hip, him⟩), if_neg (by rw [hrS, hm0]; grind), if_pos (by rw [hrS, hm1]; grind)]) hD23 h23.C
                    · refine a_bipush (6) hX dX8_held_121 (by decide) ?_
                      refine a_goto 139 hX dX8_held_123 (by decide) ?_
                      refine a_iret hX hR dX8_held_139 ⟨Nat.le_refl _, Nat.le_refl _⟩ rfl ?_
                      first
                      | exact fin_g8 h (by unfold heldS; rw [if_neg (not_not_intro ⟨hip, him⟩), if_neg (by rw [hrS, hm0]; grind), if_neg (by rw [hrS, hm1]; grind)]) hDC (h23.C.tr hmC)
                      | exact fin_o8 h (by unfold heldS; rw [if_neg (not_not_intro ⟨hip, him⟩), if_neg (by rw [hrS, hm0]; grind), if_pos (by rw [hrS, hm1]; grind)]) hD23 h23.C
              · refine a_iconst (3) hX dX8_held_99 (by decide) ?_
                refine a_iret hX hR dX8_held_100 ⟨Nat.le_refl _, Nat.le_refl _⟩ rfl ?_
                exact fin_o8 h (by unfold heldS; rw [if_neg (not_not_intro ⟨hip, him⟩), if_pos (by rw [hrS, hm0]; grind)]) hD23 h23.C
        · refine a_aload_n hX dX8_held_57 rfl ?_
          refine gf_X8_50 rfl hX dX8_held_58 ?_
          refine a_iload hX dX8_held_61 rfl ?_
          refine a_zald ((120 * j + M)) hX rfl rfl (show _ < 720 by omega) dX8_held_63 ?_
          refine a_if_eq 73 hX dX8_held_64 (by decide) (fun c_64 => ?_) (fun c_64 => ?_)
          · refine a_bipush (127) hX dX8_held_73 (by decide) ?_
            refine a_istore (ls' := [_, _, _, _, _, _, _, _]) hX dX8_held_75 (Nat.le_of_ble_eq_true rfl) rfl ?_
            refine a_iload hX dX8_held_77 rfl ?_
            refine a_if_eq 101 hX dX8_held_79 (by decide) (fun c_79 => ?_) (fun c_79 => ?_)
            · refine a_iload hX dX8_held_101 rfl ?_
              refine a_if_eq 121 hX dX8_held_103 (by decide) (fun c_103 => ?_) (fun c_103 => ?_)
              · refine a_bipush (6) hX dX8_held_121 (by decide) ?_
                refine a_goto 139 hX dX8_held_123 (by decide) ?_
                refine a_iret hX hR dX8_held_139 ⟨Nat.le_refl _, Nat.le_refl _⟩ rfl ?_
                first
                | exact fin_g8 h (by unfold heldS; rw [if_neg (not_not_intro ⟨hip, him⟩), if_neg (by rw [hrS, hm0]; grind), if_neg (by rw [hrS, hm1]; grind)]) hDC (h23.C.tr hmC)
                | exact fin_o8 h (by unfold heldS; rw [if_neg (not_not_intro ⟨hip, him⟩), if_neg (by rw [hrS, hm0]; grind), if_pos (by rw [hrS, hm1]; grind)]) hD23 h23.C
              · refine a_iload_n hX dX8_held_106 rfl ?_
                refine a_if_lt 121 hX dX8_held_107 (by decide) (fun c_107 => ?_) (fun c_107 => ?_)
                · refine a_bipush (6) hX dX8_held_121 (by decide) ?_
                  refine a_goto 139 hX dX8_held_123 (by decide) ?_
                  refine a_iret hX hR dX8_held_139 ⟨Nat.le_refl _, Nat.le_refl _⟩ rfl ?_
                  first
                  | exact fin_g8 h (by unfold heldS; rw [if_neg (not_not_intro ⟨hip, him⟩), if_neg (by rw [hrS, hm0]; grind), if_neg (by rw [hrS, hm1]; grind)]) hDC (h23.C.tr hmC)
                  | exact fin_o8 h (by unfold heldS; rw [if_neg (not_not_intro ⟨hip, him⟩), if_neg (by rw [hrS, hm0]; grind), if_pos (by rw [hrS, hm1]; grind)]) hD23 h23.C
                · refine a_iload_n hX dX8_held_110 rfl ?_
                  refine a_aload_n hX dX8_held_111 rfl ?_
                  refine gf_X8_54 rfl hX dX8_held_112 ?_
                  refine a_iload hX dX8_held_115 rfl ?_
                  refine a_iald ((120 * j + M)) hX rfl rfl (show _ < 720 by omega) dX8_held_117 ?_
                  refine a_icmp_lt 126 hX dX8_held_118 (by decide) (fun c_118 => ?_) (fun c_118 => ?_)
                  · refine a_aload_n hX dX8_held_126 rfl ?_
                    refine a_bipush (6) hX dX8_held_127 (by decide) ?_
                    refine a_iload_n hX dX8_held_129 rfl ?_
                    refine a_iload_n hX dX8_held_130 rfl ?_
                    refine a_iload_n hX dX8_held_131 rfl ?_
                    refine a_iload hX dX8_held_132 rfl ?_
                    refine a_iconst (0) hX dX8_held_134 (by decide) ?_
                    refine a_iconst (0) hX dX8_held_135 (by decide) ?_
                    refine a_callV [_, _, _, _, _, _, _] hX c_X8_comes mi_X8_comes mv_X8_comes se_X8_comes (klt rfl (by decide)) (adr_lt (kd_lt rfl (by decide))) (cell_8 rfl) rfl li_X8_159 (by decide) rfl rfl (Nat.le_of_ble_eq_true rfl) (fun q => q) dX8_held_136 ⟨g, _, _, _, _, _, _, _, 0, rfl, hD23, ho, (fun z => absurd z (by decide)), ?_⟩
                    intro wC hDC hmC
                    refine a_iret hX hR dX8_held_139 ⟨Nat.le_refl _, Nat.le_refl _⟩ rfl ?_
                    first
                    | exact fin_g8 h (by unfold heldS; rw [if_neg (not_not_intro ⟨hip, him⟩), if_neg (by rw [hrS, hm0]; grind), if_neg (by rw [hrS, hm1]; grind)]) hDC (h23.C.tr hmC)
                    | exact fin_o8 h (by unfold heldS; rw [if_neg (not_not_intro ⟨hip, him⟩), if_neg (by rw [hrS, hm0]; grind), if_pos (by rw [hrS, hm1]; grind)]) hD23 h23.C
                  · refine a_bipush (6) hX dX8_held_121 (by decide) ?_
                    refine a_goto 139 hX dX8_held_123 (by decide) ?_
                    refine a_iret hX hR dX8_held_139 ⟨Nat.le_refl _, Nat.le_refl _⟩ rfl ?_
                    first
                    | exact fin_g8 h (by unfold heldS; rw [if_neg (not_not_intro ⟨hip, him⟩), if_neg (by rw [hrS, hm0]; grind), if_neg (by rw [hrS, hm1]; grind)]) hDC (h23.C.tr hmC)
                    | exact fin_o8 h (by unfold heldS; rw [if_neg (not_not_intro ⟨hip, him⟩), if_neg (by rw [hrS, hm0]; grind), if_pos (by rw [hrS, hm1]; grind)]) hD23 h23.C
            · refine a_iload hX dX8_held_82 rfl ?_
              refine a_iload hX dX8_held_84 rfl ?_
              refine a_icmp_gt 99 hX dX8_held_86 (by decide) (fun c_86 => ?_) (fun c_86 => ?_)
              · refine a_iconst (3) hX dX8_held_99 (by decide) ?_
                refine a_iret hX hR dX8_held_100 ⟨Nat.le_refl _, Nat.le_refl _⟩ rfl ?_
                exact fin_o8 h (by unfold heldS; rw [if_neg (not_not_intro ⟨hip, him⟩), if_pos (by rw [hrS, hm0]; grind)]) hD23 h23.C
              · refine a_iload hX dX8_held_89 rfl ?_
                refine a_iload hX dX8_held_91 rfl ?_
                refine a_ineg hX dX8_held_93 ?_
                refine a_iconst (1) hX dX8_held_94 (by decide) ?_
                refine a_isub hX dX8_held_95 ?_
                first | rw [e128] | rw [e768]
                refine a_icmp_ge 101 hX dX8_held_96 (by decide) (fun c_96 => ?_) (fun c_96 => ?_)
                · refine a_iload hX dX8_held_101 rfl ?_
                  refine a_if_eq 121 hX dX8_held_103 (by decide) (fun c_103 => ?_) (fun c_103 => ?_)
                  · refine a_bipush (6) hX dX8_held_121 (by decide) ?_
                    refine a_goto 139 hX dX8_held_123 (by decide) ?_
                    refine a_iret hX hR dX8_held_139 ⟨Nat.le_refl _, Nat.le_refl _⟩ rfl ?_
                    first
                    | exact fin_g8 h (by unfold heldS; rw [if_neg (not_not_intro ⟨hip, him⟩), if_neg (by rw [hrS, hm0]; grind), if_neg (by rw [hrS, hm1]; grind)]) hDC (h23.C.tr hmC)
                    | exact fin_o8 h (by unfold heldS; rw [if_neg (not_not_intro ⟨hip, him⟩), if_neg (by rw [hrS, hm0]; grind), if_pos (by rw [hrS, hm1]; grind)]) hD23 h23.C
                  · refine a_iload_n hX dX8_held_106 rfl ?_
                    refine a_if_lt 121 hX dX8_held_107 (by decide) (fun c_107 => ?_) (fun c_107 => ?_)
                    · refine a_bipush (6) hX dX8_held_121 (by decide) ?_
                      refine a_goto 139 hX dX8_held_123 (by decide) ?_
                      refine a_iret hX hR dX8_held_139 ⟨Nat.le_refl _, Nat.le_refl _⟩ rfl ?_
                      first
                      | exact fin_g8 h (by unfold heldS; rw [if_neg (not_not_intro ⟨hip, him⟩), if_neg (by rw [hrS, hm0]; grind), if_neg (by rw [hrS, hm1]; grind)]) hDC (h23.C.tr hmC)
                      | exact fin_o8 h (by unfold heldS; rw [if_neg (not_not_intro ⟨hip, him⟩), if_neg (by rw [hrS, hm0]; grind), if_pos (by rw [hrS, hm1]; grind)]) hD23 h23.C
                    · refine a_iload_n hX dX8_held_110 rfl ?_
                      refine a_aload_n hX dX8_held_111 rfl ?_
                      refine gf_X8_54 rfl hX dX8_held_112 ?_
                      refine a_iload hX dX8_held_115 rfl ?_
                      refine a_iald ((120 * j + M)) hX rfl rfl (show _ < 720 by omega) dX8_held_117 ?_
                      refine a_icmp_lt 126 hX dX8_held_118 (by decide) (fun c_118 => ?_) (fun c_118 => ?_)
                      · refine a_aload_n hX dX8_held_126 rfl ?_
                        refine a_bipush (6) hX dX8_held_127 (by decide) ?_
                        refine a_iload_n hX dX8_held_129 rfl ?_
                        refine a_iload_n hX dX8_held_130 rfl ?_
                        refine a_iload_n hX dX8_held_131 rfl ?_
                        refine a_iload hX dX8_held_132 rfl ?_
                        refine a_iconst (0) hX dX8_held_134 (by decide) ?_
                        refine a_iconst (0) hX dX8_held_135 (by decide) ?_
                        refine a_callV [_, _, _, _, _, _, _] hX c_X8_comes mi_X8_comes mv_X8_comes se_X8_comes (klt rfl (by decide)) (adr_lt (kd_lt rfl (by decide))) (cell_8 rfl) rfl li_X8_159 (by decide) rfl rfl (Nat.le_of_ble_eq_true rfl) (fun q => q) dX8_held_136 ⟨g, _, _, _, _, _, _, _, 0, rfl, hD23, ho, (fun z => absurd z (by decide)), ?_⟩
                        intro wC hDC hmC
                        refine a_iret hX hR dX8_held_139 ⟨Nat.le_refl _, Nat.le_refl _⟩ rfl ?_
                        first
                        | exact fin_g8 h (by unfold heldS; rw [if_neg (not_not_intro ⟨hip, him⟩), if_neg (by rw [hrS, hm0]; grind), if_neg (by rw [hrS, hm1]; grind)]) hDC (h23.C.tr hmC)
                        | exact fin_o8 h (by unfold heldS; rw [if_neg (not_not_intro ⟨hip, him⟩), if_neg (by rw [hrS, hm0]; grind), if_pos (by rw [hrS, hm1]; grind)]) hD23 h23.C
                      · refine a_bipush (6) hX dX8_held_121 (by decide) ?_
                        refine a_goto 139 hX dX8_held_123 (by decide) ?_
                        refine a_iret hX hR dX8_held_139 ⟨Nat.le_refl _, Nat.le_refl _⟩ rfl ?_
                        first
                        | exact fin_g8 h (by unfold heldS; rw [if_neg (not_not_intro ⟨hip, him⟩), if_neg (by rw [hrS, hm0]; grind), if_neg (by rw [hrS, hm1]; grind)]) hDC (h23.C.tr hmC)
                        | exact fin_o8 h (by unfold heldS; rw [if_neg (not_not_intro ⟨hip, him⟩), if_neg (by rw [hrS, hm0]; grind), if_pos (by rw [hrS, hm1]; grind)]) hD23 h23.C
                · refine a_iconst (3) hX dX8_held_99 (by decide) ?_
                  refine a_iret hX hR dX8_held_100 ⟨Nat.le_refl _, Nat.le_refl _⟩ rfl ?_
                  exact fin_o8 h (by unfold heldS; rw [if_neg (not_not_intro ⟨hip, him⟩), if_pos (by rw [hrS, hm0]; grind)]) hD23 h23.C
          · refine a_sipush (32767) hX dX8_held_67 (by decide) ?_
            refine a_goto 75 hX dX8_held_70 (by decide) ?_
            refine a_istore (ls' := [_, _, _, _, _, _, _, _]) hX dX8_held_75 (Nat.le_of_ble_eq_true rfl) rfl ?_
            refine a_iload hX dX8_held_77 rfl ?_
            refine a_if_eq 101 hX dX8_held_79 (by decide) (fun c_79 => ?_) (fun c_79 => ?_)
            · refine a_iload hX dX8_held_101 rfl ?_
              refine a_if_eq 121 hX dX8_held_103 (by decide) (fun c_103 => ?_) (fun c_103 => ?_)
              · refine a_bipush (6) hX dX8_held_121 (by decide) ?_
                refine a_goto 139 hX dX8_held_123 (by decide) ?_
                refine a_iret hX hR dX8_held_139 ⟨Nat.le_refl _, Nat.le_refl _⟩ rfl ?_
                first
                | exact fin_g8 h (by unfold heldS; rw [if_neg (not_not_intro ⟨hip, him⟩), if_neg (by rw [hrS, hm0]; grind), if_neg (by rw [hrS, hm1]; grind)]) hDC (h23.C.tr hmC)
                | exact fin_o8 h (by unfold heldS; rw [if_neg (not_not_intro ⟨hip, him⟩), if_neg (by rw [hrS, hm0]; grind), if_pos (by rw [hrS, hm1]; grind)]) hD23 h23.C
              · refine a_iload_n hX dX8_held_106 rfl ?_
                refine a_if_lt 121 hX dX8_held_107 (by decide) (fun c_107 => ?_) (fun c_107 => ?_)
                · refine a_bipush (6) hX dX8_held_121 (by decide) ?_
                  refine a_goto 139 hX dX8_held_123 (by decide) ?_
                  refine a_iret hX hR dX8_held_139 ⟨Nat.le_refl _, Nat.le_refl _⟩ rfl ?_
                  first
                  | exact fin_g8 h (by unfold heldS; rw [if_neg (not_not_intro ⟨hip, him⟩), if_neg (by rw [hrS, hm0]; grind), if_neg (by rw [hrS, hm1]; grind)]) hDC (h23.C.tr hmC)
                  | exact fin_o8 h (by unfold heldS; rw [if_neg (not_not_intro ⟨hip, him⟩), if_neg (by rw [hrS, hm0]; grind), if_pos (by rw [hrS, hm1]; grind)]) hD23 h23.C
                · refine a_iload_n hX dX8_held_110 rfl ?_
                  refine a_aload_n hX dX8_held_111 rfl ?_
                  refine gf_X8_54 rfl hX dX8_held_112 ?_
                  refine a_iload hX dX8_held_115 rfl ?_
                  refine a_iald ((120 * j + M)) hX rfl rfl (show _ < 720 by omega) dX8_held_117 ?_
                  refine a_icmp_lt 126 hX dX8_held_118 (by decide) (fun c_118 => ?_) (fun c_118 => ?_)
                  · refine a_aload_n hX dX8_held_126 rfl ?_
                    refine a_bipush (6) hX dX8_held_127 (by decide) ?_
                    refine a_iload_n hX dX8_held_129 rfl ?_
                    refine a_iload_n hX dX8_held_130 rfl ?_
                    refine a_iload_n hX dX8_held_131 rfl ?_
                    refine a_iload hX dX8_held_132 rfl ?_
                    refine a_iconst (0) hX dX8_held_134 (by decide) ?_
                    refine a_iconst (0) hX dX8_held_135 (by decide) ?_
                    refine a_callV [_, _, _, _, _, _, _] hX c_X8_comes mi_X8_comes mv_X8_comes se_X8_comes (klt rfl (by decide)) (adr_lt (kd_lt rfl (by decide))) (cell_8 rfl) rfl li_X8_159 (by decide) rfl rfl (Nat.le_of_ble_eq_true rfl) (fun q => q) dX8_held_136 ⟨g, _, _, _, _, _, _, _, 0, rfl, hD23, ho, (fun z => absurd z (by decide)), ?_⟩
                    intro wC hDC hmC
                    refine a_iret hX hR dX8_held_139 ⟨Nat.le_refl _, Nat.le_refl _⟩ rfl ?_
                    first
                    | exact fin_g8 h (by unfold heldS; rw [if_neg (not_not_intro ⟨hip, him⟩), if_neg (by rw [hrS, hm0]; grind), if_neg (by rw [hrS, hm1]; grind)]) hDC (h23.C.tr hmC)
                    | exact fin_o8 h (by unfold heldS; rw [if_neg (not_not_intro ⟨hip, him⟩), if_neg (by rw [hrS, hm0]; grind), if_pos (by rw [hrS, hm1]; grind)]) hD23 h23.C
                  · refine a_bipush (6) hX dX8_held_121 (by decide) ?_
                    refine a_goto 139 hX dX8_held_123 (by decide) ?_
                    refine a_iret hX hR dX8_held_139 ⟨Nat.le_refl _, Nat.le_refl _⟩ rfl ?_
                    first
                    | exact fin_g8 h (by unfold heldS; rw [if_neg (not_not_intro ⟨hip, him⟩), if_neg (by rw [hrS, hm0]; grind), if_neg (by rw [hrS, hm1]; grind)]) hDC (h23.C.tr hmC)
                    | exact fin_o8 h (by unfold heldS; rw [if_neg (not_not_intro ⟨hip, him⟩), if_neg (by rw [hrS, hm0]; grind), if_pos (by rw [hrS, hm1]; grind)]) hD23 h23.C
            · refine a_iload hX dX8_held_82 rfl ?_
              refine a_iload hX dX8_held_84 rfl ?_
              refine a_icmp_gt 99 hX dX8_held_86 (by decide) (fun c_86 => ?_) (fun c_86 => ?_)
              · refine a_iconst (3) hX dX8_held_99 (by decide) ?_
                refine a_iret hX hR dX8_held_100 ⟨Nat.le_refl _, Nat.le_refl _⟩ rfl ?_
                exact fin_o8 h (by unfold heldS; rw [if_neg (not_not_intro ⟨hip, him⟩), if_pos (by rw [hrS, hm0]; grind)]) hD23 h23.C
              · refine a_iload hX dX8_held_89 rfl ?_
                refine a_iload hX dX8_held_91 rfl ?_
                refine a_ineg hX dX8_held_93 ?_
                refine a_iconst (1) hX dX8_held_94 (by decide) ?_
                refine a_isub hX dX8_held_95 ?_
                first | rw [e128] | rw [e768]
                refine a_icmp_ge 101 hX dX8_held_96 (by decide) (fun c_96 => ?_) (fun c_96 => ?_)
                · refine a_iload hX dX8_held_101 rfl ?_
                  refine a_if_eq 121 hX dX8_held_103 (by decide) (fun c_103 => ?_) (fun c_103 => ?_)
                  · refine a_bipush (6) hX dX8_held_121 (by decide) ?_
                    refine a_goto 139 hX dX8_held_123 (by decide) ?_
                    refine a_iret hX hR dX8_held_139 ⟨Nat.le_refl _, Nat.le_refl _⟩ rfl ?_
                    first
                    | exact fin_g8 h (by unfold heldS; rw [if_neg (not_not_intro ⟨hip, him⟩), if_neg (by rw [hrS, hm0]; grind), if_neg (by rw [hrS, hm1]; grind)]) hDC (h23.C.tr hmC)
                    | exact fin_o8 h (by unfold heldS; rw [if_neg (not_not_intro ⟨hip, him⟩), if_neg (by rw [hrS, hm0]; grind), if_pos (by rw [hrS, hm1]; grind)]) hD23 h23.C
                  · refine a_iload_n hX dX8_held_106 rfl ?_
                    refine a_if_lt 121 hX dX8_held_107 (by decide) (fun c_107 => ?_) (fun c_107 => ?_)
                    · refine a_bipush (6) hX dX8_held_121 (by decide) ?_
                      refine a_goto 139 hX dX8_held_123 (by decide) ?_
                      refine a_iret hX hR dX8_held_139 ⟨Nat.le_refl _, Nat.le_refl _⟩ rfl ?_
                      first
                      | exact fin_g8 h (by unfold heldS; rw [if_neg (not_not_intro ⟨hip, him⟩), if_neg (by rw [hrS, hm0]; grind), if_neg (by rw [hrS, hm1]; grind)]) hDC (h23.C.tr hmC)
                      | exact fin_o8 h (by unfold heldS; rw [if_neg (not_not_intro ⟨hip, him⟩), if_neg (by rw [hrS, hm0]; grind), if_pos (by rw [hrS, hm1]; grind)]) hD23 h23.C
                    · refine a_iload_n hX dX8_held_110 rfl ?_
                      refine a_aload_n hX dX8_held_111 rfl ?_
                      refine gf_X8_54 rfl hX dX8_held_112 ?_
                      refine a_iload hX dX8_held_115 rfl ?_
                      refine a_iald ((120 * j + M)) hX rfl rfl (show _ < 720 by omega) dX8_held_117 ?_
                      refine a_icmp_lt 126 hX dX8_held_118 (by decide) (fun c_118 => ?_) (fun c_118 => ?_)
                      · refine a_aload_n hX dX8_held_126 rfl ?_
                        refine a_bipush (6) hX dX8_held_127 (by decide) ?_
                        refine a_iload_n hX dX8_held_129 rfl ?_
                        refine a_iload_n hX dX8_held_130 rfl ?_
                        refine a_iload_n hX dX8_held_131 rfl ?_
                        refine a_iload hX dX8_held_132 rfl ?_
                        refine a_iconst (0) hX dX8_held_134 (by decide) ?_
                        refine a_iconst (0) hX dX8_held_135 (by decide) ?_
                        refine a_callV [_, _, _, _, _, _, _] hX c_X8_comes mi_X8_comes mv_X8_comes se_X8_comes (klt rfl (by decide)) (adr_lt (kd_lt rfl (by decide))) (cell_8 rfl) rfl li_X8_159 (by decide) rfl rfl (Nat.le_of_ble_eq_true rfl) (fun q => q) dX8_held_136 ⟨g, _, _, _, _, _, _, _, 0, rfl, hD23, ho, (fun z => absurd z (by decide)), ?_⟩
                        intro wC hDC hmC
                        refine a_iret hX hR dX8_held_139 ⟨Nat.le_refl _, Nat.le_refl _⟩ rfl ?_
                        first
                        | exact fin_g8 h (by unfold heldS; rw [if_neg (not_not_intro ⟨hip, him⟩), if_neg (by rw [hrS, hm0]; grind), if_neg (by rw [hrS, hm1]; grind)]) hDC (h23.C.tr hmC)
                        | exact fin_o8 h (by unfold heldS; rw [if_neg (not_not_intro ⟨hip, him⟩), if_neg (by rw [hrS, hm0]; grind), if_pos (by rw [hrS, hm1]; grind)]) hD23 h23.C
                      · refine a_bipush (6) hX dX8_held_121 (by decide) ?_
                        refine a_goto 139 hX dX8_held_123 (by decide) ?_
                        refine a_iret hX hR dX8_held_139 ⟨Nat.le_refl _, Nat.le_refl _⟩ rfl ?_
                        first
                        | exact fin_g8 h (by unfold heldS; rw [if_neg (not_not_intro ⟨hip, him⟩), if_neg (by rw [hrS, hm0]; grind), if_neg (by rw [hrS, hm1]; grind)]) hDC (h23.C.tr hmC)
                        | exact fin_o8 h (by unfold heldS; rw [if_neg (not_not_intro ⟨hip, him⟩), if_neg (by rw [hrS, hm0]; grind), if_pos (by rw [hrS, hm1]; grind)]) hD23 h23.C
                · refine a_iconst (3) hX dX8_held_99 (by decide) ?_
                  refine a_iret hX hR dX8_held_100 ⟨Nat.le_refl _, Nat.le_refl _⟩ rfl ?_
                  exact fin_o8 h (by unfold heldS; rw [if_neg (not_not_intro ⟨hip, him⟩), if_pos (by rw [hrS, hm0]; grind)]) hD23 h23.C
    · refine a_iconst (1) hX dX8_held_15 (by decide) ?_
      refine a_iret hX hR dX8_held_16 ⟨Nat.le_refl _, Nat.le_refl _⟩ rfl ?_
      exact fin_o8 h (by unfold heldS; rw [if_pos (by grind)]) hD FrC.rf
abbrev T_X8_copy : Tr := fun lay av w Po => ∃ (g : Sg) (p m o t : Int32), av = [.ref (lay 221), .int p, .int m, .int o, .int t] ∧ (MD g w) ∧ (okS g) ∧ ∀ w' : St, MD (copyS g p m o t).2 w' → FrC w w' → Po (some (.int (copyS g p m o t).1)) w'
set_option maxRecDepth 100000 in
set_option maxHeartbeats 4000000 in
theorem c_X8_copy : Ct yX8_copy cX8_copy 5 (some .int) 3 0 0 T_X8_copy := by
  refine Ct.mk (by decide +kernel) ?_
  intro X av w Po hX hR hT
  obtain ⟨g, p, m, o, t, rfl, hD, ho, h⟩ := hT
  refine ⟨rfl, ?_⟩
  show A X 0 0 0 [some (.ref (xlay X 221)), some (.int p), some (.int m), some (.int o), some (.int t)] [] w
  refine a_aload_n hX dX8_copy_0 rfl ?_
  refine a_iload_n hX dX8_copy_1 rfl ?_
  refine a_callV [_] hX c_X8_isPerson mi_X8_isPerson mv_X8_isPerson se_X8_isPerson (klt rfl (by decide)) (adr_lt (kd_lt rfl (by decide))) (cell_8 rfl) rfl li_X8_150 (by decide) rfl rfl (Nat.le_of_ble_eq_true rfl) (fun q => q) dX8_copy_2 ⟨_, rfl, ?_⟩
  rw [hD.1.2.2.1]
  refine a_if_eq_b 31 hX dX8_copy_5 (by decide) (fun c_5 => ?_) (fun c_5 => ?_)
  · refine a_iconst (1) hX dX8_copy_31 (by decide) ?_
    refine a_iret hX hR dX8_copy_32 ⟨Nat.le_refl _, Nat.le_refl _⟩ rfl ?_
    exact fin_o8 h (by unfold copyS; rw [if_pos (by grind)]) hD FrC.rf
  · refine a_iload_n hX dX8_copy_8 rfl ?_
    refine a_callS [_] hX c_X8_isMonth mi_X8_isMonth ms_X8_isMonth li_X8_186 (by decide) rfl rfl (Nat.le_of_ble_eq_true rfl) (fun q => q) dX8_copy_9 ⟨_, rfl, ?_⟩
    refine a_if_eq_b 31 hX dX8_copy_12 (by decide) (fun c_12 => ?_) (fun c_12 => ?_)
    · refine a_iconst (1) hX dX8_copy_31 (by decide) ?_
      refine a_iret hX hR dX8_copy_32 ⟨Nat.le_refl _, Nat.le_refl _⟩ rfl ?_
      exact fin_o8 h (by unfold copyS; rw [if_pos (by grind)]) hD FrC.rf
    · refine a_aload_n hX dX8_copy_15 rfl ?_
      refine a_iload_n hX dX8_copy_16 rfl ?_
      refine a_callV [_] hX c_X8_isPerson mi_X8_isPerson mv_X8_isPerson se_X8_isPerson (klt rfl (by decide)) (adr_lt (kd_lt rfl (by decide))) (cell_8 rfl) rfl li_X8_150 (by decide) rfl rfl (Nat.le_of_ble_eq_true rfl) (fun q => q) dX8_copy_17 ⟨_, rfl, ?_⟩
      rw [hD.1.2.2.1]
      refine a_if_eq_b 31 hX dX8_copy_20 (by decide) (fun c_20 => ?_) (fun c_20 => ?_)
      · refine a_iconst (1) hX dX8_copy_31 (by decide) ?_
        refine a_iret hX hR dX8_copy_32 ⟨Nat.le_refl _, Nat.le_refl _⟩ rfl ?_
        exact fin_o8 h (by unfold copyS; rw [if_pos (by grind)]) hD FrC.rf
      · refine a_iload hX dX8_copy_23 rfl ?_
        refine a_callS [_] hX c_X8_isMonth mi_X8_isMonth ms_X8_isMonth li_X8_186 (by decide) rfl rfl (Nat.le_of_ble_eq_true rfl) (fun q => q) dX8_copy_25 ⟨_, rfl, ?_⟩
        refine a_if_ne_b 33 hX dX8_copy_28 (by decide) (fun c_28 => ?_) (fun c_28 => ?_)
        · have hip := c_5
          have him := c_12
          obtain ⟨j, hjg, hj6, rfl⟩ := isP_ex ho c_5
          obtain ⟨M, hMM, rfl⟩ := isM_ex c_12
          refine a_aload_n hX dX8_copy_33 rfl ?_
          refine a_iload_n hX dX8_copy_34 rfl ?_
          refine a_aload_n hX dX8_copy_35 rfl ?_
          refine gf_X8_97 rfl hX dX8_copy_36 ?_
          rw [hD.1.1]
          refine a_callV [_, _] hX c_X8_tellAgain mi_X8_tellAgain mv_X8_tellAgain se_X8_tellAgain (klt rfl (by decide)) (adr_lt (kd_lt rfl (by decide))) (cell_8 rfl) rfl li_X8_140 (by decide) rfl rfl (Nat.le_of_ble_eq_true rfl) (fun q => q) dX8_copy_39 ⟨g, _, _, rfl, hD, ho, hj6, ho.1.2.2, ?_⟩
          intro w39 h39 hm39
          rw [kn_all ho] at hm39
          have hm39 : MP w39 (RSn g) j := hm39
          have hD39 := hD.s h39
          refine a_aload_n hX dX8_copy_42 rfl ?_
          refine gf_X8_47 rfl hX dX8_copy_43 ?_
          refine a_bipush (120) hX dX8_copy_46 (by decide) ?_
          refine a_iload_n hX dX8_copy_48 rfl ?_
          refine a_imul hX dX8_copy_49 ?_
          refine a_iload_n hX dX8_copy_50 rfl ?_
          refine a_iadd hX dX8_copy_51 ?_
          rw [n120]
          have hc := hm39.2.1 j hj6 M hMM
          have hrow := hc.row ho.n.2 hj6 hMM
          have hm0 : mo (RSn g) (nI j) (nI M) 0 = (RSn g).2.1 j M 0 := by unfold mo; rw [ix_nI (by omega), ix_nI (by omega)]
          have hm1 : mo (RSn g) (nI j) (nI M) 1 = (RSn g).2.1 j M 1 := by unfold mo; rw [ix_nI (by omega), ix_nI (by omega)]
          have hrS : rowS (RSn g) (nI j) (nI M) ↔ ((RSn g).2.1 j M 0 = 1 ∨ (RSn g).2.1 j M 0 = 2) := by unfold rowS; rw [hm0]
          refine a_iald ((120 * j + M)) hX rfl rfl (show _ < 720 by omega) dX8_copy_52 ?_
          refine a_iconst (1) hX dX8_copy_53 (by decide) ?_
          refine a_icmp_eq 62 hX dX8_copy_54 (by decide) (fun c_54 => ?_) (fun c_54 => ?_)
          · refine a_aload_n hX dX8_copy_62 rfl ?_
            refine a_bipush (8) hX dX8_copy_63 (by decide) ?_
            refine a_iload_n hX dX8_copy_65 rfl ?_
            refine a_iload_n hX dX8_copy_66 rfl ?_
            refine a_iload_n hX dX8_copy_67 rfl ?_
            refine a_iload hX dX8_copy_68 rfl ?_
            refine a_iconst (0) hX dX8_copy_70 (by decide) ?_
            refine a_iconst (0) hX dX8_copy_71 (by decide) ?_
            refine a_callV [_, _, _, _, _, _, _] hX c_X8_comes mi_X8_comes mv_X8_comes se_X8_comes (klt rfl (by decide)) (adr_lt (kd_lt rfl (by decide))) (cell_8 rfl) rfl li_X8_159 (by decide) rfl rfl (Nat.le_of_ble_eq_true rfl) (fun q => q) dX8_copy_72 ⟨g, _, _, _, _, _, _, _, 0, rfl, hD39, ho, (fun z => absurd z (by decide)), ?_⟩
            intro wC hDC hmC
            refine a_iret hX hR dX8_copy_75 ⟨Nat.le_refl _, Nat.le_refl _⟩ rfl ?_
            first
            | exact fin_g8 h (by unfold copyS; rw [if_neg (not_not_intro ⟨hip, him, c_20, c_28⟩), if_neg (not_not_intro (hrS.mpr (hrow.mp c_54)))]) hDC (h39.C.tr hmC)
            | exact fin_o8 h (by unfold copyS; rw [if_neg (not_not_intro ⟨hip, him, c_20, c_28⟩), if_pos (fun z => c_54 (hrow.mpr (hrS.mp z)))]) hD39 h39.C
          · refine a_bipush (6) hX dX8_copy_57 (by decide) ?_
            refine a_goto 75 hX dX8_copy_59 (by decide) ?_
            refine a_iret hX hR dX8_copy_75 ⟨Nat.le_refl _, Nat.le_refl _⟩ rfl ?_
            first
            | exact fin_g8 h (by unfold copyS; rw [if_neg (not_not_intro ⟨hip, him, c_20, c_28⟩), if_neg (not_not_intro (hrS.mpr (hrow.mp c_54)))]) hDC (h39.C.tr hmC)
            | exact fin_o8 h (by unfold copyS; rw [if_neg (not_not_intro ⟨hip, him, c_20, c_28⟩), if_pos (fun z => c_54 (hrow.mpr (hrS.mp z)))]) hD39 h39.C
        · refine a_iconst (1) hX dX8_copy_31 (by decide) ?_
          refine a_iret hX hR dX8_copy_32 ⟨Nat.le_refl _, Nat.le_refl _⟩ rfl ?_
          exact fin_o8 h (by unfold copyS; rw [if_pos (by grind)]) hD FrC.rf
abbrev T_X8_off : Tr := fun lay av w Po => ∃ (g : Sg) (p l k f : Int32), av = [.ref (lay 221), .int p, .int l, .int k, .int f] ∧ (MD g w) ∧ (okS g) ∧ ∀ w' : St, MD (offS g p l k f).2 w' → FrC w w' → Po (some (.int (offS g p l k f).1)) w'
set_option maxRecDepth 100000 in
set_option maxHeartbeats 4000000 in
theorem c_X8_off : Ct yX8_off cX8_off 5 (some .int) 3 0 0 T_X8_off := by
  refine Ct.mk (by decide +kernel) ?_
  intro X av w Po hX hR hT
  obtain ⟨g, p, l, k, f, rfl, hD, ho, h⟩ := hT
  refine ⟨rfl, ?_⟩
  show A X 0 0 0 [some (.ref (xlay X 221)), some (.int p), some (.int l), some (.int k), some (.int f)] [] w
  refine a_aload_n hX dX8_off_0 rfl ?_
  refine a_iload_n hX dX8_off_1 rfl ?_
  refine a_callV [_] hX c_X8_isPerson mi_X8_isPerson mv_X8_isPerson se_X8_isPerson (klt rfl (by decide)) (adr_lt (kd_lt rfl (by decide))) (cell_8 rfl) rfl li_X8_150 (by decide) rfl rfl (Nat.le_of_ble_eq_true rfl) (fun q => q) dX8_off_2 ⟨_, rfl, ?_⟩
  rw [hD.1.2.2.1]
  refine a_if_eq_b 15 hX dX8_off_5 (by decide) (fun c_5 => ?_) (fun c_5 => ?_)
  · refine a_iconst (1) hX dX8_off_15 (by decide) ?_
    refine a_iret hX hR dX8_off_16 ⟨Nat.le_refl _, Nat.le_refl _⟩ rfl ?_
    exact fin_o8 h (by unfold offS; rw [if_pos (by grind)]) hD FrC.rf
  · refine a_iload_n hX dX8_off_8 rfl ?_
    refine a_callS [_] hX c_X8_isPlace mi_X8_isPlace ms_X8_isPlace li_X8_153 (by decide) rfl rfl (Nat.le_of_ble_eq_true rfl) (fun q => q) dX8_off_9 ⟨_, rfl, ?_⟩
    refine a_if_ne_b 17 hX dX8_off_12 (by decide) (fun c_12 => ?_) (fun c_12 => ?_)
    · refine a_iload_n hX dX8_off_17 rfl ?_
      refine a_iconst (2) hX dX8_off_18 (by decide) ?_
      refine a_icmp_lt 41 hX dX8_off_19 (by decide) (fun c_19 => ?_) (fun c_19 => ?_)
      · refine a_iconst (3) hX dX8_off_41 (by decide) ?_
        refine a_iret hX hR dX8_off_42 ⟨Nat.le_refl _, Nat.le_refl _⟩ rfl ?_
        exact fin_o8 h (by unfold offS; rw [if_neg (not_not_intro ⟨c_5, c_12⟩), if_pos (by grind)]) hD FrC.rf
      · refine a_iload_n hX dX8_off_22 rfl ?_
        refine a_bipush (100) hX dX8_off_23 (by decide) ?_
        refine a_icmp_gt 41 hX dX8_off_25 (by decide) (fun c_25 => ?_) (fun c_25 => ?_)
        · refine a_iconst (3) hX dX8_off_41 (by decide) ?_
          refine a_iret hX hR dX8_off_42 ⟨Nat.le_refl _, Nat.le_refl _⟩ rfl ?_
          exact fin_o8 h (by unfold offS; rw [if_neg (not_not_intro ⟨c_5, c_12⟩), if_pos (by grind)]) hD FrC.rf
        · refine a_iload hX dX8_off_28 rfl ?_
          refine a_if_lt 41 hX dX8_off_30 (by decide) (fun c_30 => ?_) (fun c_30 => ?_)
          · refine a_iconst (3) hX dX8_off_41 (by decide) ?_
            refine a_iret hX hR dX8_off_42 ⟨Nat.le_refl _, Nat.le_refl _⟩ rfl ?_
            exact fin_o8 h (by unfold offS; rw [if_neg (not_not_intro ⟨c_5, c_12⟩), if_pos (by grind)]) hD FrC.rf
          · refine a_iload hX dX8_off_33 rfl ?_
            refine a_sipush (1000) hX dX8_off_35 (by decide) ?_
            refine a_icmp_le 43 hX dX8_off_38 (by decide) (fun c_38 => ?_) (fun c_38 => ?_)
            · have hip := c_5
              have hil := c_12
              obtain ⟨j, hjg, hj6, rfl⟩ := isP_ex ho c_5
              obtain ⟨i, hi, rfl⟩ := isL_ex c_12
              refine a_aload_n hX dX8_off_43 rfl ?_
              refine a_iload_n hX dX8_off_44 rfl ?_
              refine a_aload_n hX dX8_off_45 rfl ?_
              refine gf_X8_97 rfl hX dX8_off_46 ?_
              rw [hD.1.1]
              refine a_callV [_, _] hX c_X8_tellAgain mi_X8_tellAgain mv_X8_tellAgain se_X8_tellAgain (klt rfl (by decide)) (adr_lt (kd_lt rfl (by decide))) (cell_8 rfl) rfl li_X8_140 (by decide) rfl rfl (Nat.le_of_ble_eq_true rfl) (fun q => q) dX8_off_49 ⟨g, _, _, rfl, hD, ho, hj6, ho.1.2.2, ?_⟩
              intro w49 h49 hm49
              rw [kn_all ho] at hm49
              have hm49 : MP w49 (RSn g) j := hm49
              have hD49 := hD.s h49
              obtain ⟨m0, m5, m8⟩ := (hm49.1.pl hi)
              have hru : (((2 ≤ w49.1 224 i ∧ w49.1 224 i ≤ 5) ∧ w49.1 232 i = -1) ∧ w49.1 224 i ≠ 5) ↔ ruld (RSn g) (nI j) (nI i) := by
                unfold ruld pl
                rw [m0, m5, ix_nI (by omega), ix_nI (by omega)]
              refine a_aload_n hX dX8_off_52 rfl ?_
              refine a_iload_n hX dX8_off_53 rfl ?_
              refine a_callV [_] hX c_X8_isRuled mi_X8_isRuled mv_X8_isRuled se_X8_isRuled (klt rfl (by decide)) (adr_lt (kd_lt rfl (by decide))) (cell_8 rfl) rfl li_X8_189 (by decide) rfl rfl (Nat.le_of_ble_eq_true rfl) (fun q => q) dX8_off_54 ⟨_, rfl, hi, ?_⟩
              refine a_if_ne_b 64 hX dX8_off_57 (by decide) (fun c_57 => ?_) (fun c_57 => ?_)
              · refine a_aload_n hX dX8_off_64 rfl ?_
                refine a_bipush (9) hX dX8_off_65 (by decide) ?_
                refine a_iload_n hX dX8_off_67 rfl ?_
                refine a_iload_n hX dX8_off_68 rfl ?_
                refine a_iload_n hX dX8_off_69 rfl ?_
                refine a_iload hX dX8_off_70 rfl ?_
                refine a_iconst (0) hX dX8_off_72 (by decide) ?_
                refine a_iconst (0) hX dX8_off_73 (by decide) ?_
                refine a_callV [_, _, _, _, _, _, _] hX c_X8_comes mi_X8_comes mv_X8_comes se_X8_comes (klt rfl (by decide)) (adr_lt (kd_lt rfl (by decide))) (cell_8 rfl) rfl li_X8_159 (by decide) rfl rfl (Nat.le_of_ble_eq_true rfl) (fun q => q) dX8_off_74 ⟨g, _, _, _, _, _, _, _, 0, rfl, hD49, ho, (fun z => absurd z (by decide)), ?_⟩
                intro wC hDC hmC
                refine a_iret hX hR dX8_off_77 ⟨Nat.le_refl _, Nat.le_refl _⟩ rfl ?_
                first
                | exact fin_g8 h (by unfold offS; rw [if_neg (not_not_intro ⟨hip, hil⟩), if_neg (by grind), if_neg (not_not_intro (hru.mp c_57))]) hDC (h49.C.tr hmC)
                | exact fin_o8 h (by unfold offS; rw [if_neg (not_not_intro ⟨hip, hil⟩), if_neg (by grind), if_pos (fun z => c_57 (hru.mpr z))]) hD49 h49.C
              · refine a_iconst (5) hX dX8_off_60 (by decide) ?_
                refine a_goto 77 hX dX8_off_61 (by decide) ?_
                refine a_iret hX hR dX8_off_77 ⟨Nat.le_refl _, Nat.le_refl _⟩ rfl ?_
                first
                | exact fin_g8 h (by unfold offS; rw [if_neg (not_not_intro ⟨hip, hil⟩), if_neg (by grind), if_neg (not_not_intro (hru.mp c_57))]) hDC (h49.C.tr hmC)
                | exact fin_o8 h (by unfold offS; rw [if_neg (not_not_intro ⟨hip, hil⟩), if_neg (by grind), if_pos (fun z => c_57 (hru.mpr z))]) hD49 h49.C
            · refine a_iconst (3) hX dX8_off_41 (by decide) ?_
              refine a_iret hX hR dX8_off_42 ⟨Nat.le_refl _, Nat.le_refl _⟩ rfl ?_
              exact fin_o8 h (by unfold offS; rw [if_neg (not_not_intro ⟨c_5, c_12⟩), if_pos (by grind)]) hD FrC.rf
    · refine a_iconst (1) hX dX8_off_15 (by decide) ?_
      refine a_iret hX hR dX8_off_16 ⟨Nat.le_refl _, Nat.le_refl _⟩ rfl ?_
      exact fin_o8 h (by unfold offS; rw [if_pos (by grind)]) hD FrC.rf
abbrev T_X8_grant : Tr := fun lay av w Po => ∃ (g : Sg) (p d : Int32), av = [.ref (lay 221), .int p, .int d] ∧ (MD g w) ∧ (okS g) ∧ ∀ w' : St, MD (grantS g p d).2 w' → FrC w w' → Po (some (.int (grantS g p d).1)) w'
set_option maxRecDepth 100000 in
set_option maxHeartbeats 4000000 in
theorem c_X8_grant : Ct yX8_grant cX8_grant 4 (some .int) 5 0 0 T_X8_grant := by
  refine Ct.mk (by decide +kernel) ?_
  intro X av w Po hX hR hT
  obtain ⟨g, p, d, rfl, hD, ho, h⟩ := hT
  refine ⟨rfl, ?_⟩
  show A X 0 0 0 [some (.ref (xlay X 221)), some (.int p), some (.int d), none] [] w
  refine a_aload_n hX dX8_grant_0 rfl ?_
  refine a_iload_n hX dX8_grant_1 rfl ?_
  refine a_callV [_] hX c_X8_isPerson mi_X8_isPerson mv_X8_isPerson se_X8_isPerson (klt rfl (by decide)) (adr_lt (kd_lt rfl (by decide))) (cell_8 rfl) rfl li_X8_150 (by decide) rfl rfl (Nat.le_of_ble_eq_true rfl) (fun q => q) dX8_grant_2 ⟨_, rfl, ?_⟩
  rw [hD.1.2.2.1]
  refine a_if_ne_b 10 hX dX8_grant_5 (by decide) (fun c_5 => ?_) (fun c_5 => ?_)
  · refine a_iload_n hX dX8_grant_10 rfl ?_
    refine a_callS [_] hX c_X8_isDay mi_X8_isDay ms_X8_isDay li_X8_163 (by decide) rfl rfl (Nat.le_of_ble_eq_true rfl) (fun q => q) dX8_grant_11 ⟨_, rfl, ?_⟩
    refine a_if_ne_b 19 hX dX8_grant_14 (by decide) (fun c_14 => ?_) (fun c_14 => ?_)
    · have hn4 := ho.1.1
      have hcc : nI (gn g) = 400 ↔ gn g = 400 := nI_eq (b := 400) (by omega) (by decide)
      refine a_aload_n hX dX8_grant_19 rfl ?_
      refine gf_X8_106 rfl hX dX8_grant_20 ?_
      refine a_sipush (400) hX dX8_grant_23 (by decide) ?_
      rw [hD.1.2.2.2]
      refine a_icmp_ne 32 hX dX8_grant_26 (by decide) (fun c_26 => ?_) (fun c_26 => ?_)
      · have hg4 : ¬ gn g = 400 := fun z => c_26 (hcc.mpr z)
        obtain ⟨j, hjg, hj6, rfl⟩ := isP_ex ho c_5
        obtain ⟨x, hx, rfl⟩ := isD_ex c_14
        have hjx : ix (nI j) = j := ix_nI (by omega)
        have hxx : ix (nI x) = x := ix_nI (by omega)
        refine a_aload_n hX dX8_grant_32 rfl ?_
        refine a_iload_n hX dX8_grant_33 rfl ?_
        refine a_aload_n hX dX8_grant_34 rfl ?_
        refine gf_X8_97 rfl hX dX8_grant_35 ?_
        refine a_iconst (0) hX dX8_grant_38 (by decide) ?_
        rw [hD.1.1]
        refine a_callV [_, _, _] hX c_X8_reckon mi_X8_reckon mv_X8_reckon se_X8_reckon (klt rfl (by decide)) (adr_lt (kd_lt rfl (by decide))) (cell_8 rfl) rfl li_X8_192 (by decide) rfl rfl (Nat.le_of_ble_eq_true rfl) (fun q => q) dX8_grant_39 ⟨g, _, _, _, rfl, hD, ho, hj6, ho.1.2.2, ?_⟩
        intro w39 be en h39 hk39
        rw [kn_all ho] at hk39
        have hk39 : MK w39 (RSn g) j 0 be en := hk39
        have hD39 := hD.s h39
        refine a_aload_n hX dX8_grant_42 rfl ?_
        refine a_sipush (500) hX dX8_grant_43 (by decide) ?_
        refine a_callV [_] hX c_X8_watchedNow mi_X8_watchedNow mv_X8_watchedNow se_X8_watchedNow (klt rfl (by decide)) (adr_lt (kd_lt rfl (by decide))) (cell_8 rfl) rfl li_X8_195 (by decide) rfl rfl (Nat.le_of_ble_eq_true rfl) (fun q => q) dX8_grant_46 ⟨RSn g, j, 500, 0, _, _, rfl, hk39, ho.n, hj6, by decide, ?_⟩
        refine a_istore_n (ls' := [_, _, _, _]) hX dX8_grant_49 (Nat.le_of_ble_eq_true rfl) rfl ?_
        refine a_iload_n hX dX8_grant_50 rfl ?_
        refine a_iconst (-1) hX dX8_grant_51 (by decide) ?_
        have hdy : (dyI (waD (RSn g) j 0 500) = -1 ↔ ¬ waD (RSn g) j 0 500 < 3600) ∧ (waD (RSn g) j 0 500 < 3600 → dyI (waD (RSn g) j 0 500) = nI (waD (RSn g) j 0 500)) := by
          unfold dyI
          constructor
          · split
            · next q => exact ⟨fun y => absurd y (nI_nm1 (by omega)), fun y => absurd q y⟩
            · next q => exact ⟨fun _ => q, fun _ => rfl⟩
          · intro q; rw [if_pos q]
        refine a_icmp_eq 60 hX dX8_grant_52 (by decide) (fun c_52 => ?_) (fun c_52 => ?_)
        · refine a_bipush (8) hX dX8_grant_60 (by decide) ?_
          refine a_goto 77 hX dX8_grant_62 (by decide) ?_
          refine a_iret hX hR dX8_grant_77 ⟨Nat.le_refl _, Nat.le_refl _⟩ rfl ?_
          first
          | (have hge : ¬ x < waD (RSn g) j 0 500 := by
               have hl : waD (RSn g) j 0 500 < 3600 := Decidable.not_not.mp (fun z => c_52 (hdy.1.mpr z))
               rw [hdy.2 hl] at c_57
               have := (nI_leI (by omega) (by omega)).mp c_57
               omega
             exact fin_g8 h (by unfold grantS; rw [if_neg (not_not_intro c_5), if_neg (not_not_intro c_14), if_neg hg4, if_neg (by rw [hjx, hxx]; exact hge)]) hDC (h39.C.tr hmC))
          | (have hlt : x < waD (RSn g) j 0 500 := by
               first
               | (have := hdy.1.mp c_52
                  omega)
               | (by_cases hl : waD (RSn g) j 0 500 < 3600
                  · rw [hdy.2 hl] at c_57
                    exact (nI_ltI (by omega) (by omega)).mp (lt_nle c_57)
                  · omega)
             exact fin_o8 h (by unfold grantS; rw [if_neg (not_not_intro c_5), if_neg (not_not_intro c_14), if_neg hg4, if_pos (by rw [hjx, hxx]; exact hlt)]) hD39 h39.C)
        · refine a_iload_n hX dX8_grant_55 rfl ?_
          refine a_iload_n hX dX8_grant_56 rfl ?_
          refine a_icmp_ge 65 hX dX8_grant_57 (by decide) (fun c_57 => ?_) (fun c_57 => ?_)
          · refine a_aload_n hX dX8_grant_65 rfl ?_
            refine a_bipush (11) hX dX8_grant_66 (by decide) ?_
            refine a_iload_n hX dX8_grant_68 rfl ?_
            refine a_iload_n hX dX8_grant_69 rfl ?_
            refine a_iconst (0) hX dX8_grant_70 (by decide) ?_
            refine a_iconst (0) hX dX8_grant_71 (by decide) ?_
            refine a_iconst (0) hX dX8_grant_72 (by decide) ?_
            refine a_iconst (0) hX dX8_grant_73 (by decide) ?_
            refine a_callV [_, _, _, _, _, _, _] hX c_X8_comes mi_X8_comes mv_X8_comes se_X8_comes (klt rfl (by decide)) (adr_lt (kd_lt rfl (by decide))) (cell_8 rfl) rfl li_X8_159 (by decide) rfl rfl (Nat.le_of_ble_eq_true rfl) (fun q => q) dX8_grant_74 ⟨g, _, _, _, _, _, _, _, 0, rfl, hD39, ho, (fun z => absurd z (by decide)), ?_⟩
            intro wC hDC hmC
            refine a_iret hX hR dX8_grant_77 ⟨Nat.le_refl _, Nat.le_refl _⟩ rfl ?_
            first
            | (have hge : ¬ x < waD (RSn g) j 0 500 := by
                 have hl : waD (RSn g) j 0 500 < 3600 := Decidable.not_not.mp (fun z => c_52 (hdy.1.mpr z))
                 rw [hdy.2 hl] at c_57
                 have := (nI_leI (by omega) (by omega)).mp c_57
                 omega
               exact fin_g8 h (by unfold grantS; rw [if_neg (not_not_intro c_5), if_neg (not_not_intro c_14), if_neg hg4, if_neg (by rw [hjx, hxx]; exact hge)]) hDC (h39.C.tr hmC))
            | (have hlt : x < waD (RSn g) j 0 500 := by
                 first
                 | (have := hdy.1.mp c_52
                    omega)
                 | (by_cases hl : waD (RSn g) j 0 500 < 3600
                    · rw [hdy.2 hl] at c_57
                      exact (nI_ltI (by omega) (by omega)).mp (lt_nle c_57)
                    · omega)
               exact fin_o8 h (by unfold grantS; rw [if_neg (not_not_intro c_5), if_neg (not_not_intro c_14), if_neg hg4, if_pos (by rw [hjx, hxx]; exact hlt)]) hD39 h39.C)
          · refine a_bipush (8) hX dX8_grant_60 (by decide) ?_
            refine a_goto 77 hX dX8_grant_62 (by decide) ?_
            refine a_iret hX hR dX8_grant_77 ⟨Nat.le_refl _, Nat.le_refl _⟩ rfl ?_
            first
            | (have hge : ¬ x < waD (RSn g) j 0 500 := by
                 have hl : waD (RSn g) j 0 500 < 3600 := Decidable.not_not.mp (fun z => c_52 (hdy.1.mpr z))
                 rw [hdy.2 hl] at c_57
                 have := (nI_leI (by omega) (by omega)).mp c_57
                 omega
               exact fin_g8 h (by unfold grantS; rw [if_neg (not_not_intro c_5), if_neg (not_not_intro c_14), if_neg hg4, if_neg (by rw [hjx, hxx]; exact hge)]) hDC (h39.C.tr hmC))
            | (have hlt : x < waD (RSn g) j 0 500 := by
                 first
                 | (have := hdy.1.mp c_52
                    omega)
                 | (by_cases hl : waD (RSn g) j 0 500 < 3600
                    · rw [hdy.2 hl] at c_57
                      exact (nI_ltI (by omega) (by omega)).mp (lt_nle c_57)
                    · omega)
               exact fin_o8 h (by unfold grantS; rw [if_neg (not_not_intro c_5), if_neg (not_not_intro c_14), if_neg hg4, if_pos (by rw [hjx, hxx]; exact hlt)]) hD39 h39.C)
      · refine a_bipush (7) hX dX8_grant_29 (by decide) ?_
        refine a_iret hX hR dX8_grant_31 ⟨Nat.le_refl _, Nat.le_refl _⟩ rfl ?_
        exact fin_o8 h (by unfold grantS; rw [if_neg (not_not_intro c_5), if_neg (not_not_intro c_14), if_pos (hcc.mp c_26)]) hD FrC.rf
    · refine a_iconst (3) hX dX8_grant_17 (by decide) ?_
      refine a_iret hX hR dX8_grant_18 ⟨Nat.le_refl _, Nat.le_refl _⟩ rfl ?_
      exact fin_o8 h (by unfold grantS; rw [if_neg (not_not_intro c_5), if_pos c_14]) hD FrC.rf
  · refine a_iconst (1) hX dX8_grant_8 (by decide) ?_
    refine a_iret hX hR dX8_grant_9 ⟨Nat.le_refl _, Nat.le_refl _⟩ rfl ?_
    exact fin_o8 h (by unfold grantS; rw [if_pos c_5]) hD FrC.rf
abbrev T_X8_person : Tr := fun lay av w Po => ∃ (g : Sg), av = [.ref (lay 221)] ∧ (MD g w) ∧ (okS g) ∧ ∀ w' : St, MD (personS g ).2 w' → FrC w w' → Po (some (.int (personS g ).1)) w'
set_option maxRecDepth 100000 in
set_option maxHeartbeats 4000000 in
theorem c_X8_person : Ct yX8_person cX8_person 1 (some .int) 0 0 0 T_X8_person := by
  refine Ct.mk (by decide +kernel) ?_
  intro X av w Po hX hR hT
  obtain ⟨g, rfl, hD, ho, h⟩ := hT
  refine ⟨rfl, ?_⟩
  show A X 0 0 0 [some (.ref (xlay X 221))] [] w
  have h6 := ho.1.2.1
  have hcc : nI (gp g) = 6 ↔ gp g = 6 := nI_eq (b := 6) (by omega) (by decide)
  refine a_aload_n hX dX8_person_0 rfl ?_
  refine gf_X8_94 rfl hX dX8_person_1 ?_
  refine a_bipush (6) hX dX8_person_4 (by decide) ?_
  rw [hD.1.2.2.1]
  refine a_icmp_ne 11 hX dX8_person_6 (by decide) (fun c_6 => ?_) (fun c_6 => ?_)
  · refine a_aload_n hX dX8_person_11 rfl ?_
    refine a_dup hX dX8_person_12 rfl ?_
    refine gf_X8_94 rfl hX dX8_person_13 ?_
    refine a_iconst (1) hX dX8_person_16 (by decide) ?_
    refine a_iadd hX dX8_person_17 ?_
    rw [hD.1.2.2.1, nI_1]
    refine pf_X8_94 rfl hX dX8_person_18 ?_
    refine a_aload_n hX dX8_person_21 rfl ?_
    refine gf_X8_94 rfl hX dX8_person_22 ?_
    rw [wset_1, if_pos ⟨rfl, rfl⟩]
    refine a_iconst (1) hX dX8_person_25 (by decide) ?_
    refine a_isub hX dX8_person_26 ?_
    rw [nI_s1]
    refine a_iret hX hR dX8_person_27 ⟨Nat.le_refl _, Nat.le_refl _⟩ rfl ?_
    exact fin_o8 (g := (gL g, gn g, gp g + 1, gt g, ga g, gr g, gq g)) h (by unfold personS; rw [if_neg (fun z => c_6 (hcc.mpr z))]) (hD.put (j := 2) (v := nI (gp g + 1)) hD.1.1 hD.1.2.1 rfl (by decide) (by decide)) FrC.f
  · refine a_iconst (-1) hX dX8_person_9 (by decide) ?_
    refine a_iret hX hR dX8_person_10 ⟨Nat.le_refl _, Nat.le_refl _⟩ rfl ?_
    exact fin_o8 h (by unfold personS; rw [if_pos (hcc.mp c_6)]) hD FrC.rf
abbrev T_X8_today : Tr := fun lay av w Po => ∃ (g : Sg) (d : Int32), av = [.ref (lay 221), .int d] ∧ (MD g w) ∧ (okS g) ∧ ∀ w' : St, MD (todayS g d).2 w' → FrC w w' → Po (some (.int (todayS g d).1)) w'
set_option maxRecDepth 100000 in
set_option maxHeartbeats 4000000 in
theorem c_X8_today : Ct yX8_today cX8_today 2 (some .boolean) 0 0 0 T_X8_today := by
  refine Ct.mk (by decide +kernel) ?_
  intro X av w Po hX hR hT
  obtain ⟨g, d, rfl, hD, ho, h⟩ := hT
  refine ⟨rfl, ?_⟩
  show A X 0 0 0 [some (.ref (xlay X 221)), some (.int d)] [] w
  refine a_iload_n hX dX8_today_0 rfl ?_
  refine a_aload_n hX dX8_today_1 rfl ?_
  refine gf_X8_97 rfl hX dX8_today_2 ?_
  rw [hD.1.1]
  refine a_icmp_lt 15 hX dX8_today_5 (by decide) (fun c_5 => ?_) (fun c_5 => ?_)
  · refine a_iconst (0) hX dX8_today_15 (by decide) ?_
    refine a_iret hX hR dX8_today_16 ⟨Nat.le_refl _, Nat.le_refl _⟩ rfl ?_
    exact fin_o8 h (by unfold todayS; rw [if_neg (by grind)]) hD FrC.rf
  · refine a_iload_n hX dX8_today_8 rfl ?_
    refine a_sipush (3600) hX dX8_today_9 (by decide) ?_
    refine a_icmp_lt 17 hX dX8_today_12 (by decide) (fun c_12 => ?_) (fun c_12 => ?_)
    · have hdd : isD d ∧ nI (gt g) ≤ d := by
        have h1 : nI (gt g) ≤ d := by first | exact le_nlt c_5 | exact c_5
        have h0 : (0 : Int32) ≤ nI (gt g) := nI_pos' (by have := ho.1.2.2; omega)
        exact ⟨⟨Int32.le_trans h0 h1, c_12⟩, h1⟩
      obtain ⟨x, hx, rfl⟩ := isD_ex hdd.1
      refine a_aload_n hX dX8_today_17 rfl ?_
      refine a_iload_n hX dX8_today_18 rfl ?_
      refine pf_X8_97 rfl hX dX8_today_19 ?_
      refine a_iconst (1) hX dX8_today_22 (by decide) ?_
      refine a_iret hX hR dX8_today_23 ⟨Nat.le_refl _, Nat.le_refl _⟩ rfl ?_
      exact fin_o8 (g := (gL g, gn g, gp g, ix (nI x), ga g, gr g, gq g)) h (by unfold todayS; rw [if_pos hdd]) (hD.put (j := 0) (v := nI x) (show nI x = nI (ix (nI x)) by rw [ix_nI (by omega)]) hD.1.2.1 hD.1.2.2.1 (by decide) (by decide)) FrC.f
    · refine a_iconst (0) hX dX8_today_15 (by decide) ?_
      refine a_iret hX hR dX8_today_16 ⟨Nat.le_refl _, Nat.le_refl _⟩ rfl ?_
      exact fin_o8 h (by unfold todayS; rw [if_neg (by grind)]) hD FrC.rf
abbrev T_X8_as : Tr := fun lay av w Po => ∃ (g : Sg) (d : Int32), av = [.ref (lay 221), .int d] ∧ (MD g w) ∧ (okS g) ∧ ∀ w' : St, MD (asS g d).2 w' → FrC w w' → Po (some (.int (asS g d).1)) w'
set_option maxRecDepth 100000 in
set_option maxHeartbeats 4000000 in
theorem c_X8_as : Ct yX8_as cX8_as 2 (some .int) 0 0 0 T_X8_as := by
  refine Ct.mk (by decide +kernel) ?_
  intro X av w Po hX hR hT
  obtain ⟨g, d, rfl, hD, ho, h⟩ := hT
  refine ⟨rfl, ?_⟩
  show A X 0 0 0 [some (.ref (xlay X 221)), some (.int d)] [] w
  have ht3 : nI (gt g) < 3600 := nI_lt (b := 3600) ho.1.2.2 (by decide)
  have htr : d ≤ nI (gt g) → d < 3600 := fun z => by
    rw [Int32.lt_iff_toInt_lt] at ht3 ⊢
    rw [Int32.le_iff_toInt_le] at z
    omega
  refine a_iload_n hX dX8_as_0 rfl ?_
  refine a_iconst (-1) hX dX8_as_1 (by decide) ?_
  refine a_icmp_eq 19 hX dX8_as_2 (by decide) (fun c_2 => ?_) (fun c_2 => ?_)
  · refine a_aload_n hX dX8_as_19 rfl ?_
    refine a_iload_n hX dX8_as_20 rfl ?_
    refine pf_X8_9 rfl hX dX8_as_21 ?_
    refine a_iconst (1) hX dX8_as_24 (by decide) ?_
    refine a_iret hX hR dX8_as_25 ⟨Nat.le_refl _, Nat.le_refl _⟩ rfl ?_
    exact fin_o8 (g := (gL g, gn g, gp g, gt g, d, gr g, gq g)) h (by unfold asS; rw [if_pos (by grind)]) (hD.put (a := d) (j := 1) (v := d) hD.1.1 rfl hD.1.2.2.1 (by decide) (by decide)) FrC.f
  · refine a_iload_n hX dX8_as_5 rfl ?_
    refine a_if_lt 17 hX dX8_as_6 (by decide) (fun c_6 => ?_) (fun c_6 => ?_)
    · refine a_iconst (-1) hX dX8_as_17 (by decide) ?_
      refine a_iret hX hR dX8_as_18 ⟨Nat.le_refl _, Nat.le_refl _⟩ rfl ?_
      exact fin_o8 h (by unfold asS; rw [if_neg (by grind)]) hD FrC.rf
    · refine a_iload_n hX dX8_as_9 rfl ?_
      refine a_aload_n hX dX8_as_10 rfl ?_
      refine gf_X8_97 rfl hX dX8_as_11 ?_
      rw [hD.1.1]
      refine a_icmp_le 19 hX dX8_as_14 (by decide) (fun c_14 => ?_) (fun c_14 => ?_)
      · refine a_aload_n hX dX8_as_19 rfl ?_
        refine a_iload_n hX dX8_as_20 rfl ?_
        refine pf_X8_9 rfl hX dX8_as_21 ?_
        refine a_iconst (1) hX dX8_as_24 (by decide) ?_
        refine a_iret hX hR dX8_as_25 ⟨Nat.le_refl _, Nat.le_refl _⟩ rfl ?_
        exact fin_o8 (g := (gL g, gn g, gp g, gt g, d, gr g, gq g)) h (by unfold asS; rw [if_pos (by grind)]) (hD.put (a := d) (j := 1) (v := d) hD.1.1 rfl hD.1.2.2.1 (by decide) (by decide)) FrC.f
      · refine a_iconst (-1) hX dX8_as_17 (by decide) ?_
        refine a_iret hX hR dX8_as_18 ⟨Nat.le_refl _, Nat.le_refl _⟩ rfl ?_
        exact fin_o8 h (by unfold asS; rw [if_neg (by grind)]) hD FrC.rf
