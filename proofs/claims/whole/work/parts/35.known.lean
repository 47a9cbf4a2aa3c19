/-! the files as known -/
theorem kd_r {r : Nat} (h : r = 2 ∨ r = 106) : kd r = 4 := by rcases h with rfl | rfl <;> rfl
/-- what the cells of the reckoning hold behind reckon -/
theorem RkT.mk2 {w w' : St} {q P : Nat} {S : RS} {mst : Int32} {be en : Nat → Nat} (hq : kd q = 1) (hF : FileS w q S P) (hg : gdS S) (hP : P < 6) (hf : Fr w w' (fun z => 210 ≤ z ∧ z ≤ 216)) (hs : Sol (plF w q) (heldF w q mst) be en) (hr : RkS w' (plF w q) (heldF w q mst) be en) (hb : ∀ k, k < 12 → bdN (be k) ∧ bdN (en k)) : RkT w' q S P mst be en := by
  have h8 := kd1_208 hq
  have hF' : FileS w' q S P := hF.fr hf (fun z h1 h2 h3 => by omega)
  have ep : plF w' q = plF w q ∨ True := Or.inr trivial
  have hh : heldF w' q mst = heldF w q mst := heldF_fr hf (fun z hz => hz.1) hq mst
  refine ⟨hq, hF', ?_, hb, Sol_hd (fun x hx => hF.held hg.2 hP mst hx) (Sol_ag hF.ag hs)⟩
  rw [hh]
  exact RkS_ag (plF_ag hf (fun z hz => hz.1) hq).symm hr
theorem FileS.pre {w : St} {q P : Nat} {S : RS} (h : FileS w q S P) (hg : gdS S) (hP : P < 6) : vP (plF w q) ∧ hdOK w q ∧ acyN (plF w q) := ⟨vP_ag h.ag.symm (hg.1 P hP).1, h.hd, acyN_ag h.ag.symm (hg.1 P hP).2.1⟩
theorem kn_step {g : Sg} {n : Nat} (h : ¬ ix (gL g n 0) ≤ daN g) : kn (gL g) (daN g) (n + 1) = kn (gL g) (daN g) n := if_neg h
theorem kn_done {g : Sg} {n : Nat} (h : ix (gL g n 0) ≤ daN g) : kn (gL g) (daN g) (n + 1) = n + 1 := if_pos h
theorem RSk_eq {g : Sg} {n : Nat} (h : kn (gL g) (daN g) (gn g) = n) : RSk g = rpl (gL g) n := by
  unfold RSk
  rw [h]
theorem nI_m1' (n : Nat) : nI (n + 1) + Int32.ofInt (-1) = nI n := by
  rw [show Int32.ofInt (-1) = -1 from by decide, ← nI_1, Int32.add_assoc, show (1 : Int32) + -1 = 0 from by decide, Int32.add_zero]
theorem nI_s1 (n : Nat) : nI (n + 1) - 1 = nI n := by
  rw [Int32.sub_eq_add_neg, ← nI_1, Int32.add_assoc, show (1 : Int32) + -1 = 0 from by decide, Int32.add_zero]
abbrev T_X7_known : Tr := fun lay av w Po => ∃ (g : Sg), av = [.ref (lay 0)] ∧ (CI g w) ∧ (okS g) ∧ ∀ (w' : St) (r : Nat), (r = 2 ∨ r = 106) → RegS w' r (RSk g) → CI g w' → Fr w w' (fun z => 106 ≤ z ∧ z < 210) → Po (some (.ref (lay r))) w'
set_option maxRecDepth 100000 in
set_option maxHeartbeats 4000000 in
theorem c_X7_known : Ct yX7_known cX7_known 2 (some (.object "TermReckoner$Registry")) 5 0 0 T_X7_known := by
  refine Ct.mk (by decide +kernel) ?_
  intro X av w Po hX hR hT
  obtain ⟨g, rfl, hC, ho, h⟩ := hT
  refine ⟨rfl, ?_⟩
  show A X 0 0 0 [some (.ref (xlay X 0)), none] [] w
  have J33 : ∀ (s : Nat), (s ≤ gn g) → (kn (gL g) (daN g) (gn g) = s) → A X 0 0 33 [some (.ref (xlay X 0)), some (.int (nI s))] [] w := by
    intro s hs hk
    refine a_iload_n hX dX7_known_33 rfl ?_
    refine a_aload_n hX dX7_known_34 rfl ?_
    refine gf_X7_15 rfl hX dX7_known_35 ?_
    rw [hC.1.1.1]
    refine a_icmp_ne 46 hX dX7_known_38 (by decide) (fun c_38 => ?_) (fun c_38 => ?_)
    · refine a_aload_n hX dX7_known_46 rfl ?_
      refine gf_X7_35 rfl hX dX7_known_47 ?_
      refine a_aload_n hX dX7_known_50 rfl ?_
      refine gf_X7_11 rfl hX dX7_known_51 ?_
      refine a_iload_n hX dX7_known_54 rfl ?_
      obtain ⟨m, hm, em, hrm⟩ := hC.1.2.2.2.2.2.1
      have hn4 := ho.1.1
      have hnw := hC.1.2.2.1
      refine a_callV [_, _] hX c_X4_learnUpTo mi_X4_learnUpTo mv_X4_learnUpTo se_X4_learnUpTo (klt rfl (by decide)) (adr_lt (kd_lt rfl (by decide))) (cell_4 rfl) rfl li_X7_269 (by decide) rfl rfl (Nat.le_of_ble_eq_true rfl) (fun q => q) dX7_known_55 ⟨106, s, m, rfl, rfl, by rw [hC.1.2.1]; exact hs, by omega, by rw [hC.1.2.1]; exact hnw, by omega, em, by rw [hC.1.rp hm]; exact hrm, fun i hi => hC.1.ve ho (by omega), ?_⟩
      intro w55 hf55 hr55 hl55
      refine a_aload_n hX dX7_known_58 rfl ?_
      refine gf_X7_35 rfl hX dX7_known_59 ?_
      refine a_aret hX hR dX7_known_62 ⟨Nat.le_refl _, Nat.le_refl _⟩ (Or.inr ⟨_, rfl⟩) ?_
      rw [hC.1.rp hs] at hr55
      have hC9 : CIg g w55 := by
        obtain ⟨a, b, c, d, e, f, i, j⟩ := hC.1
        exact ⟨by rw [hf55.2 0 (by omega)]; exact a, by rw [hf55.1]; exact b, by rw [hf55.1]; exact c, fun i hi j hj => by rw [hf55.2 _ (by omega)]; exact d i hi j hj, ⟨e.1.fr hf55 (fun z h1 h2 h3 => by omega), by rw [hf55.2 2 (by omega)]; exact e.2⟩, ⟨s, hs, hl55, hr55⟩, by rw [hf55.2 217 (by omega)]; exact i, by rw [hf55.2 218 (by omega)]; exact j⟩
      exact h w55 106 (Or.inr rfl) (by rw [RSk_eq hk]; exact hr55) ⟨hC9, by rw [hf55.1]; exact hC.2⟩ (hf55.mono (fun z hz => by omega))
    · refine a_aload_n hX dX7_known_41 rfl ?_
      refine gf_X7_31 rfl hX dX7_known_42 ?_
      refine a_aret hX hR dX7_known_45 ⟨Nat.le_refl _, Nat.le_refl _⟩ (Or.inr ⟨_, rfl⟩) ?_
      have e9 : s = gn g := (nI_eq (by have := ho.1.1; omega) (by have := ho.1.1; omega)).mp c_38
      subst e9
      exact h w 2 (Or.inl rfl) (by rw [RSk_eq hk]; exact hC.1.2.2.2.2.1.1) hC Fr.rf
  refine a_aload_n hX dX7_known_0 rfl ?_
  refine gf_X7_15 rfl hX dX7_known_1 ?_
  refine a_istore_n (ls' := [_, _]) hX dX7_known_4 (Nat.le_of_ble_eq_true rfl) rfl ?_
  have L5 : ∀ (fu : Nat) (s : Nat), s < fu → (s ≤ gn g) → (kn (gL g) (daN g) (gn g) = kn (gL g) (daN g) s) → A X 0 0 5 [some (.ref (xlay X 0)), some (.int (nI s))] [] w := by
    intro fu
    induction fu with
    | zero => intro s hmu; exact absurd hmu (Nat.not_lt_zero _)
    | succ fu ih =>
      intro s hmu hs hk
      refine a_iload_n hX dX7_known_5 rfl ?_
      refine a_if_le 33 hX dX7_known_6 (by decide) (fun c_6 => ?_) (fun c_6 => ?_)
      · exact J33 _ hs (by
          have h0 : s = 0 := by
            cases s with
            | zero => rfl
            | succ n =>
              have h9 : (nI (n + 1) : Int32) ≤ nI 0 := by first | exact c_6 | exact Int32.not_lt.mp c_6
              have := (nI_leI (by have := ho.1.1; omega) (by decide)).mp h9
              omega
          subst h0
          rw [hk]; rfl)
      · obtain ⟨n, rfl⟩ : ∃ n, s = n + 1 := by
          cases s with
          | zero => exact absurd (by decide) c_6
          | succ n => exact ⟨n, rfl⟩
        have hn4 := ho.1.1
        have hnw := hC.1.2.2.1
        refine a_aload_n hX dX7_known_9 rfl ?_
        refine gf_X7_11 rfl hX dX7_known_10 ?_
        refine a_iload_n hX dX7_known_13 rfl ?_
        refine a_iconst (1) hX dX7_known_14 (by decide) ?_
        refine a_isub hX dX7_known_15 ?_
        rw [nI_s1]
        refine a_ald_log n hX rfl (by omega) (by rw [hC.1.2.1]; omega) dX7_known_16 ?_
        refine a_aload_n hX dX7_known_17 rfl ?_
        refine a_callV [] hX c_X7_dayAsked mi_X7_dayAsked mv_X7_dayAsked se_X7_dayAsked (klt rfl (by decide)) (adr_lt (kd_lt rfl (by decide))) (cell_7 rfl) rfl li_X7_209 (by decide) rfl rfl (Nat.le_of_ble_eq_true rfl) (fun q => q) dX7_known_18 ⟨rfl, ?_⟩
        rw [hC.1.1.2.2.1, hC.1.1.2.2.2, ho.da.2]
        refine a_callS [_, _] hX c_X7_isBehind mi_X7_isBehind ms_X7_isBehind li_X7_273 (by decide) rfl rfl (Nat.le_of_ble_eq_true rfl) (fun q => q) dX7_known_21 ⟨_, _, rfl, (by omega), ?_⟩
        obtain ⟨x, hx, ex⟩ := (ho.2.2.2.1 n (by omega)).1
        have hd3 := ho.da.1
        have ht3 := ho.1.2.2
        have e0 : w.1 (248 + n) 0 = nI x := by rw [hC.1.2.2.2.1 n (by omega) 0 (by decide)]; exact ex
        have hcmp : nI (daN g) < w.1 (248 + n) 0 ↔ ¬ ix (gL g n 0) ≤ daN g := by
          rw [e0, ex, ix_nI (by omega), nI_ltI (by omega) (by omega)]
          omega
        refine a_if_eq_b 33 hX dX7_known_24 (by decide) (fun c_24 => ?_) (fun c_24 => ?_)
        · exact J33 _ hs (by rw [hk]; exact kn_done (Decidable.not_not.mp (fun q => c_24 (hcmp.mpr q))))
        · have hbh := hcmp.mp c_24
          refine a_iinc (ls' := [_, _]) (nI n) hX dX7_known_27 rfl (nI_m1' n) rfl ?_
          refine a_goto 5 hX dX7_known_30 (by decide) ?_
          exact ih n (by omega) (by omega) (by rw [hk, kn_step hbh])
  rw [hC.1.1.1]
  exact L5 (gn g + 1) (gn g) (by omega) (Nat.le_refl _) rfl
abbrev T_X7_reckonOrder : Tr := fun lay av w Po => ∃ (g : Sg) (p l mst : Int32), av = [.ref (lay 0), .int p, .int l, .int mst] ∧ (CI g w) ∧ (okS g) ∧ ∀ w' : St, CI g w' → FrM w w' → (ordS g p l → ∃ q be en, RkT w' q (RSk g) (ix p) mst be en) → Po (some (.int (bI (ordS g p l)))) w'
set_option maxRecDepth 100000 in
set_option maxHeartbeats 4000000 in
theorem c_X7_reckonOrder : Ct yX7_reckonOrder cX7_reckonOrder 6 (some .boolean) 6 0 0 T_X7_reckonOrder := by
  refine Ct.mk (by decide +kernel) ?_
  intro X av w Po hX hR hT
  obtain ⟨g, p, l, mst, rfl, hC, ho, h⟩ := hT
  refine ⟨rfl, ?_⟩
  show A X 0 0 0 [some (.ref (xlay X 0)), some (.int p), some (.int l), some (.int mst), none, none] [] w
  refine a_aload_n hX dX7_reckonOrder_0 rfl ?_
  refine a_aload_n hX dX7_reckonOrder_1 rfl ?_
  refine a_callV [] hX c_X7_known mi_X7_known mv_X7_known se_X7_known (klt rfl (by decide)) (adr_lt (kd_lt rfl (by decide))) (cell_7 rfl) rfl li_X7_169 (by decide) rfl rfl (Nat.le_of_ble_eq_true rfl) (fun q => q) dX7_reckonOrder_2 ⟨_, rfl, (by assumption), (by assumption), ?_⟩
  intro w2 r2 hr2 hg2 hC2 hf2
  · have hkr2 := kd_r hr2
    have hm2 := hf2.M (fun z hz => by omega)
    refine a_iload_n hX dX7_reckonOrder_5 rfl ?_
    refine a_callV [_, _] hX c_X7_fileOf mi_X7_fileOf mv_X7_fileOf se_X7_fileOf (klt rfl (by decide)) (adr_lt (kd_lt rfl (by decide))) (cell_7 rfl) rfl li_X7_112 (by decide) rfl rfl (Nat.le_of_ble_eq_true rfl) (fun q => q) dX7_reckonOrder_6 ⟨_, (gp g), _, rfl, hkr2, hC2.1.1.2.1, ho.1.2.1, ?_⟩
    refine ⟨fun j6 hj6 hj66 e6 => ?_, fun hn6 => ?_⟩
    · subst e6
      refine a_astore (ls' := [_, _, _, _, _, _]) hX dX7_reckonOrder_9 (Nat.le_of_ble_eq_true rfl) rfl ?_
      refine a_aload hX dX7_reckonOrder_11 rfl ?_
      refine a_ifnonnull 20 hX dX7_reckonOrder_13 (by decide) ?_
      refine a_aload hX dX7_reckonOrder_20 rfl ?_
      refine a_iload_n hX dX7_reckonOrder_22 rfl ?_
      rcases rng_cs l 12 (by decide) with ⟨i, hi, rfl⟩ | hnl
      · refine a_callV [_] hX c_X1_at mi_X1_at mv_X1_at se_X1_at (klt (K4_f (show kd r2 = 4 by first | rfl | assumption) hj66) (by decide)) (adr_lt (kd_lt (K4_f (show kd r2 = 4 by first | rfl | assumption) hj66) (by decide))) (cell_1 (K4_f (show kd r2 = 4 by first | rfl | assumption) hj66)) rfl li_X7_131 (by decide) rfl rfl (Nat.le_of_ble_eq_true rfl) (fun q => q) dX7_reckonOrder_23 ⟨_, _, rfl, K4_f hkr2 hj66, Or.inl ⟨i, hi, rfl, ?_⟩⟩
        refine a_astore (ls' := [_, _, _, _, _, _]) hX dX7_reckonOrder_26 (Nat.le_of_ble_eq_true rfl) rfl ?_
        refine a_aload hX dX7_reckonOrder_28 rfl ?_
        refine a_ifnull hX dX7_reckonOrder_30 ?_
        refine a_aload hX dX7_reckonOrder_33 rfl ?_
        refine a_callV [] hX c_X2_stands mi_X2_stands mv_X2_stands se_X2_stands (klt (K1_p (K4_f hkr2 hj66) hi) (by decide)) (adr_lt (kd_lt (K1_p (K4_f hkr2 hj66) hi) (by decide))) (cell_2 (K1_p (K4_f hkr2 hj66) hi)) rfl li_X7_278 (by decide) rfl rfl (Nat.le_of_ble_eq_true rfl) (fun q => q) dX7_reckonOrder_35 ⟨_, rfl, (K1_p (K4_f hkr2 hj66) hi), ?_⟩
        have hF := hg2 j6 hj66
        have hp9 : ix (nI j6) = j6 := ix_nI (by omega)
        have hl9 : ix (nI i) = i := ix_nI (by omega)
        rw [hF.1 i hi 0 (by decide), hF.1 i hi 5 (by decide)]
        have hor : ordS g (nI j6) (nI i) ↔ ((2 ≤ (RSk g).1 j6 i 0 ∧ (RSk g).1 j6 i 0 ≤ 5) ∧ (RSk g).1 j6 i 5 = -1) := by
          unfold ordS stB
          rw [hp9, hl9, decide_eq_true_eq]
          exact ⟨fun z => z.2, fun z => ⟨⟨isP_nI ho.1.2.1 hj6, isL_nI hi⟩, z⟩⟩
        refine a_if_ne_b 43 hX dX7_reckonOrder_38 (by decide) (fun c_38 => ?_) (fun c_38 => ?_)
        · refine a_aload_n hX dX7_reckonOrder_43 rfl ?_
          refine gf_X7_41 rfl hX dX7_reckonOrder_44 ?_
          refine a_aload hX dX7_reckonOrder_47 rfl ?_
          refine a_iload_n hX dX7_reckonOrder_49 rfl ?_
          refine a_callV [_, _] hX c_X3_reckon mi_X3_reckon mv_X3_reckon se_X3_reckon (klt rfl (by decide)) (adr_lt (kd_lt rfl (by decide))) (cell_3 rfl) rfl li_X7_135 (by decide) rfl rfl (Nat.le_of_ble_eq_true rfl) (fun q => q) dX7_reckonOrder_50 ⟨_, _, rfl, (K4_f hkr2 hj66), (hF.pre ho.k hj66).1, (hF.pre ho.k hj66).2.1, (hF.pre ho.k hj66).2.2, ?_⟩
          intro w50 be en hf50 hs50 hr50 hb50 _
          refine a_iconst (1) hX dX7_reckonOrder_53 (by decide) ?_
          refine a_iret hX hR dX7_reckonOrder_54 ⟨Nat.le_refl _, Nat.le_refl _⟩ rfl ?_
          exact po_int (h w50 (hC2.fr hf50 (fun z hz => by omega)) (hm2.tr (hf50.M (fun z hz => by omega))) (fun _ => ⟨_, be, en, by rw [hp9]; exact RkT.mk2 (K4_f hkr2 hj66) hF ho.k hj66 hf50 hs50 hr50 hb50⟩)) (bI_t (hor.mpr c_38))
        · refine a_iconst (0) hX dX7_reckonOrder_41 (by decide) ?_
          refine a_iret hX hR dX7_reckonOrder_42 ⟨Nat.le_refl _, Nat.le_refl _⟩ rfl ?_
          first
          | exact po_int (h w2 hC2 hm2 (fun z => absurd (hor.mp z) c_38)) (by rw [bI_f (fun z => c_38 (hor.mp z))])
          | exact po_int (h w2 hC2 hm2 (fun z => absurd z.1.2 hnl)) (by rw [bI_f (fun z => hnl z.1.2)])
          | exact po_int (h w2 hC2 hm2 (fun z => absurd z.1.1 hn6)) (by rw [bI_f (fun z => hn6 z.1.1)])
      · refine a_callV [_] hX c_X1_at mi_X1_at mv_X1_at se_X1_at (klt (K4_f (show kd r2 = 4 by first | rfl | assumption) hj66) (by decide)) (adr_lt (kd_lt (K4_f (show kd r2 = 4 by first | rfl | assumption) hj66) (by decide))) (cell_1 (K4_f (show kd r2 = 4 by first | rfl | assumption) hj66)) rfl li_X7_131 (by decide) rfl rfl (Nat.le_of_ble_eq_true rfl) (fun q => q) dX7_reckonOrder_23 ⟨_, _, rfl, K4_f hkr2 hj66, Or.inr ⟨hnl, ?_⟩⟩
        refine a_astoreN (ls' := [_, _, _, _, _, _]) hX dX7_reckonOrder_26 (Nat.le_of_ble_eq_true rfl) rfl ?_
        refine a_aloadN hX dX7_reckonOrder_28 rfl ?_
        refine a_ifnullN 41 hX dX7_reckonOrder_30 (by decide) ?_
        refine a_iconst (0) hX dX7_reckonOrder_41 (by decide) ?_
        refine a_iret hX hR dX7_reckonOrder_42 ⟨Nat.le_refl _, Nat.le_refl _⟩ rfl ?_
        first
        | exact po_int (h w2 hC2 hm2 (fun z => absurd (hor.mp z) c_38)) (by rw [bI_f (fun z => c_38 (hor.mp z))])
        | exact po_int (h w2 hC2 hm2 (fun z => absurd z.1.2 hnl)) (by rw [bI_f (fun z => hnl z.1.2)])
        | exact po_int (h w2 hC2 hm2 (fun z => absurd z.1.1 hn6)) (by rw [bI_f (fun z => hn6 z.1.1)])
    · refine a_astoreN (ls' := [_, _, _, _, _, _]) hX dX7_reckonOrder_9 (Nat.le_of_ble_eq_true rfl) rfl ?_
      refine a_aloadN hX dX7_reckonOrder_11 rfl ?_
      refine a_ifnonnullN hX dX7_reckonOrder_13 ?_
      refine a_null hX dX7_reckonOrder_16 ?_
      refine a_goto 26 hX dX7_reckonOrder_17 (by decide) ?_
      refine a_astoreN (ls' := [_, _, _, _, _, _]) hX dX7_reckonOrder_26 (Nat.le_of_ble_eq_true rfl) rfl ?_
      refine a_aloadN hX dX7_reckonOrder_28 rfl ?_
      refine a_ifnullN 41 hX dX7_reckonOrder_30 (by decide) ?_
      refine a_iconst (0) hX dX7_reckonOrder_41 (by decide) ?_
      refine a_iret hX hR dX7_reckonOrder_42 ⟨Nat.le_refl _, Nat.le_refl _⟩ rfl ?_
      first
      | exact po_int (h w2 hC2 hm2 (fun z => absurd (hor.mp z) c_38)) (by rw [bI_f (fun z => c_38 (hor.mp z))])
      | exact po_int (h w2 hC2 hm2 (fun z => absurd z.1.2 hnl)) (by rw [bI_f (fun z => hnl z.1.2)])
      | exact po_int (h w2 hC2 hm2 (fun z => absurd z.1.1 hn6)) (by rw [bI_f (fun z => hn6 z.1.1)])
