/-! the class: check, take -/
abbrev T_X7_check : Tr := fun lay av w Po => ∃ (g : Sg) (p l d b : Int32), av = [.ref (lay 0), .int p, .int l, .int d, .int b] ∧ (CI g w) ∧ (okS g) ∧ ∀ w' : St, CI g w' → FrM w w' → Po (some (.int (checkS g p l d b))) w'
set_option maxRecDepth 100000 in
set_option maxHeartbeats 4000000 in
theorem c_X7_check : Ct yX7_check cX7_check 7 (some .int) 7 0 0 T_X7_check := by
  refine Ct.mk (by decide +kernel) ?_
  intro X av w Po hX hR hT
  obtain ⟨g, p, l, d, b, rfl, hC, ho, h⟩ := hT
  refine ⟨rfl, ?_⟩
  show A X 0 0 0 [some (.ref (xlay X 0)), some (.int p), some (.int l), some (.int d), some (.int b), none, none] [] w
  refine a_iload_n hX dX7_check_0 rfl ?_
  refine a_callS [_] hX c_X7_isDay mi_X7_isDay ms_X7_isDay li_X7_52 (by decide) rfl rfl (Nat.le_of_ble_eq_true rfl) (fun q => q) dX7_check_1 ⟨_, rfl, ?_⟩
  refine a_if_eq_b 17 hX dX7_check_4 (by decide) (fun c_4 => ?_) (fun c_4 => ?_)
  · refine a_bipush (-2) hX dX7_check_17 (by decide) ?_
    refine a_iret hX hR dX7_check_19 ⟨Nat.le_refl _, Nat.le_refl _⟩ rfl ?_
    first | exact po_int (h w hC FrM.rf) (by unfold checkS; rw [if_neg (fun z => c_4 z.1)]) | exact po_int (h w11 hC11 hm11) (by unfold checkS; rw [if_neg (fun z => c_14 z.2)])
  · refine a_aload_n hX dX7_check_7 rfl ?_
    refine a_iload_n hX dX7_check_8 rfl ?_
    refine a_iload_n hX dX7_check_9 rfl ?_
    refine a_iconst (0) hX dX7_check_10 (by decide) ?_
    refine a_callV [_, _, _] hX c_X7_reckonOrder mi_X7_reckonOrder mv_X7_reckonOrder se_X7_reckonOrder (klt rfl (by decide)) (adr_lt (kd_lt rfl (by decide))) (cell_7 rfl) rfl li_X7_173 (by decide) rfl rfl (Nat.le_of_ble_eq_true rfl) (fun q => q) dX7_check_11 ⟨_, _, _, _, rfl, hC, ho, ?_⟩
    intro w11 hC11 hm11 hk11
    refine a_if_ne_b 20 hX dX7_check_14 (by decide) (fun c_14 => ?_) (fun c_14 => ?_)
    · obtain ⟨j, i, hjg, hj6, hi, rfl, rfl, hjx, hix, hsB⟩ := ordS_ex ho c_14
      obtain ⟨q, be, en, hk⟩ := hk11 c_14
      rw [hjx] at hk
      have htie := sol_tie ho.k hj6 hk.2.2.2.2 hi hsB
      obtain ⟨x, hx, rfl⟩ := isD_ex c_4
      have hS : checkS g (nI j) (nI i) (nI x) b = ckN (RSk g) j i x b 32 := by
        unfold checkS
        rw [if_pos ⟨c_4, c_14⟩, hjx, hix, ix_nI (by omega)]
      refine a_iconst (0) hX dX7_check_20 (by decide) ?_
      refine a_istore (ls' := [_, _, _, _, _, _, _]) hX dX7_check_21 (Nat.le_of_ble_eq_true rfl) rfl ?_
      have L23 : ∀ (fu : Nat) (s : Nat) (y6 : Option Value), 32 - s < fu → (s ≤ 32) → (ckN (RSk g) j i x b 32 = ckN (RSk g) j i x b (32 - s)) → A X 0 0 23 [some (.ref (xlay X 0)), some (.int (nI j)), some (.int (nI i)), some (.int (nI x)), some (.int b), some (.int (nI s)), y6] [] w11 := by
        intro fu
        induction fu with
        | zero => intro s y6 hmu; exact absurd hmu (Nat.not_lt_zero _)
        | succ fu ih =>
          intro s y6 hmu hs hck
          refine a_iload hX dX7_check_23 rfl ?_
          refine a_bipush (32) hX dX7_check_25 (by decide) ?_
          refine a_icmp_ge 75 hX dX7_check_27 (by decide) (fun c_27 => ?_) (fun c_27 => ?_)
          · refine a_iconst (-1) hX dX7_check_75 (by decide) ?_
            refine a_iret hX hR dX7_check_76 ⟨Nat.le_refl _, Nat.le_refl _⟩ rfl ?_
            have hs32 : s = 32 := by
              have := le_of_c (b := 32) c_27 (by omega) (by omega)
              omega
            subst hs32
            exact po_int (h w11 hC11 hm11) (by rw [hS, hck]; rfl)
          · have hs32 : s < 32 := lt_of_c (b := 32) c_27 (by omega) (by omega)
            have hbs := bt_u (b := b) hs32
            refine a_iload hX dX7_check_30 rfl ?_
            refine a_iload hX dX7_check_32 rfl ?_
            refine a_iushr hX dX7_check_34 ?_
            refine a_iconst (1) hX dX7_check_35 (by decide) ?_
            refine a_iand hX dX7_check_36 ?_
            refine a_if_eq 44 hX dX7_check_37 (by decide) (fun c_37 => ?_) (fun c_37 => ?_)
            · refine a_iconst (0) hX dX7_check_44 (by decide) ?_
              refine a_istore (ls' := [_, _, _, _, _, _, _]) hX dX7_check_45 (Nat.le_of_ble_eq_true rfl) rfl ?_
              refine a_iload hX dX7_check_47 rfl ?_
              refine a_aload_n hX dX7_check_49 rfl ?_
              refine gf_X7_41 rfl hX dX7_check_50 ?_
              refine a_iload_n hX dX7_check_53 rfl ?_
              refine a_iload_n hX dX7_check_54 rfl ?_
              refine a_iload hX dX7_check_55 rfl ?_
              refine a_iadd hX dX7_check_57 ?_
              rw [nI_add]
              refine a_callV [_, _] hX c_X3_doesCount mi_X3_doesCount mv_X3_doesCount se_X3_doesCount (klt rfl (by decide)) (adr_lt (kd_lt rfl (by decide))) (cell_3 rfl) rfl li_X7_218 (by decide) rfl rfl (Nat.le_of_ble_eq_true rfl) (fun q => q) dX7_check_58 ⟨_, _, _, _, _, _, rfl, hi, (by rw [stB_ag hk.2.1.ag hi]; exact hsB), hk.2.2.1, (by omega), ?_⟩
              have hct : (x + s < 3600 ∧ ctB (plF w11 q) (heldF w11 q 0) be en i (x + s) = true) ↔ (decide (x + s < 3600) && ctN (RSk g) j 0 i (x + s)) = true := by
                rw [Bool.and_eq_true, decide_eq_true_eq]
                constructor
                · rintro ⟨a, b⟩
                  exact ⟨a, by rw [← hk.ct ho.k hj6 hi hsB a]; exact b⟩
                · rintro ⟨a, b⟩
                  exact ⟨a, by rw [hk.ct ho.k hj6 hi hsB a]; exact b⟩
              have hstep : ckN (RSk g) j i x b (32 - s) = if (decide (x + s < 3600) && ctN (RSk g) j 0 i (x + s)) ≠ bt b s then nI (x + s) else ckN (RSk g) j i x b (32 - (s + 1)) := by
                have h9 := ckN_succ (RSk g) j i x b (32 - (s + 1))
                rw [show 32 - (s + 1) + 1 = 32 - s by omega, show 32 - (32 - s) = s by omega] at h9
                exact h9
              have h1 : (1 : Int32) = bI (x + s < 3600 ∧ ctB (plF w11 q) (heldF w11 q 0) be en i (x + s) = true) ↔ (decide (x + s < 3600) && ctN (RSk g) j 0 i (x + s)) = true := by
                rw [← hct]
                unfold bI
                split
                · next hz => exact ⟨fun _ => hz, fun _ => rfl⟩
                · next hz => exact ⟨fun y => absurd y (by decide), fun y => absurd y hz⟩
              have h0 : (0 : Int32) = bI (x + s < 3600 ∧ ctB (plF w11 q) (heldF w11 q 0) be en i (x + s) = true) ↔ (decide (x + s < 3600) && ctN (RSk g) j 0 i (x + s)) = false := by
                rw [← Bool.not_eq_true, ← hct]
                unfold bI
                split
                · next hz => exact ⟨fun y => absurd y (by decide), fun y => absurd hz y⟩
                · next hz => exact ⟨fun _ => hz, fun _ => rfl⟩
              have hb1 : bt b s = true ∨ bt b s = false := by cases bt b s <;> simp
              refine a_icmp_eq 69 hX dX7_check_61 (by decide) (fun c_61 => ?_) (fun c_61 => ?_)
              · have hne : ¬ ((decide (x + s < 3600) && ctN (RSk g) j 0 i (x + s)) ≠ bt b s) := by
                  apply not_not_intro
                  first
                  | (rw [hbs.mp c_37]
                     exact h0.mp c_61)
                  | (rcases hb1 with hb1 | hb1
                     · rw [hb1]
                       exact h1.mp c_61
                     · exact absurd (hbs.mpr hb1) c_37)
                refine a_iinc (ls' := [_, _, _, _, _, _, _]) (nI (s + 1)) hX dX7_check_69 rfl (nI_i1 s) rfl ?_
                refine a_goto 23 hX dX7_check_72 (by decide) ?_
                exact ih (s + 1) _ (by omega) (by omega) (by rw [hck, hstep, if_neg hne])
              · refine a_iload_n hX dX7_check_64 rfl ?_
                refine a_iload hX dX7_check_65 rfl ?_
                refine a_iadd hX dX7_check_67 ?_
                refine a_iret hX hR dX7_check_68 ⟨Nat.le_refl _, Nat.le_refl _⟩ rfl ?_
                have hne : (decide (x + s < 3600) && ctN (RSk g) j 0 i (x + s)) ≠ bt b s := by
                  first
                  | (rw [hbs.mp c_37]
                     intro z
                     exact c_61 (h0.mpr z))
                  | (rcases hb1 with hb1 | hb1
                     · rw [hb1]
                       intro z
                       exact c_61 (h1.mpr z)
                     · exact absurd (hbs.mpr hb1) c_37)
                exact po_int (h w11 hC11 hm11) (by rw [hS, hck, hstep, if_pos hne, nI_add])
            · refine a_iconst (1) hX dX7_check_40 (by decide) ?_
              refine a_goto 45 hX dX7_check_41 (by decide) ?_
              refine a_istore (ls' := [_, _, _, _, _, _, _]) hX dX7_check_45 (Nat.le_of_ble_eq_true rfl) rfl ?_
              refine a_iload hX dX7_check_47 rfl ?_
              refine a_aload_n hX dX7_check_49 rfl ?_
              refine gf_X7_41 rfl hX dX7_check_50 ?_
              refine a_iload_n hX dX7_check_53 rfl ?_
              refine a_iload_n hX dX7_check_54 rfl ?_
              refine a_iload hX dX7_check_55 rfl ?_
              refine a_iadd hX dX7_check_57 ?_
              rw [nI_add]
              refine a_callV [_, _] hX c_X3_doesCount mi_X3_doesCount mv_X3_doesCount se_X3_doesCount (klt rfl (by decide)) (adr_lt (kd_lt rfl (by decide))) (cell_3 rfl) rfl li_X7_218 (by decide) rfl rfl (Nat.le_of_ble_eq_true rfl) (fun q => q) dX7_check_58 ⟨_, _, _, _, _, _, rfl, hi, (by rw [stB_ag hk.2.1.ag hi]; exact hsB), hk.2.2.1, (by omega), ?_⟩
              have hct : (x + s < 3600 ∧ ctB (plF w11 q) (heldF w11 q 0) be en i (x + s) = true) ↔ (decide (x + s < 3600) && ctN (RSk g) j 0 i (x + s)) = true := by
                rw [Bool.and_eq_true, decide_eq_true_eq]
                constructor
                · rintro ⟨a, b⟩
                  exact ⟨a, by rw [← hk.ct ho.k hj6 hi hsB a]; exact b⟩
                · rintro ⟨a, b⟩
                  exact ⟨a, by rw [hk.ct ho.k hj6 hi hsB a]; exact b⟩
              have hstep : ckN (RSk g) j i x b (32 - s) = if (decide (x + s < 3600) && ctN (RSk g) j 0 i (x + s)) ≠ bt b s then nI (x + s) else ckN (RSk g) j i x b (32 - (s + 1)) := by
                have h9 := ckN_succ (RSk g) j i x b (32 - (s + 1))
                rw [show 32 - (s + 1) + 1 = 32 - s by omega, show 32 - (32 - s) = s by omega] at h9
                exact h9
              have h1 : (1 : Int32) = bI (x + s < 3600 ∧ ctB (plF w11 q) (heldF w11 q 0) be en i (x + s) = true) ↔ (decide (x + s < 3600) && ctN (RSk g) j 0 i (x + s)) = true := by
                rw [← hct]
                unfold bI
                split
                · next hz => exact ⟨fun _ => hz, fun _ => rfl⟩
                · next hz => exact ⟨fun y => absurd y (by decide), fun y => absurd y hz⟩
              have h0 : (0 : Int32) = bI (x + s < 3600 ∧ ctB (plF w11 q) (heldF w11 q 0) be en i (x + s) = true) ↔ (decide (x + s < 3600) && ctN (RSk g) j 0 i (x + s)) = false := by
                rw [← Bool.not_eq_true, ← hct]
                unfold bI
                split
                · next hz => exact ⟨fun y => absurd y (by decide), fun y => absurd hz y⟩
                · next hz => exact ⟨fun _ => hz, fun _ => rfl⟩
              have hb1 : bt b s = true ∨ bt b s = false := by cases bt b s <;> simp
              refine a_icmp_eq 69 hX dX7_check_61 (by decide) (fun c_61 => ?_) (fun c_61 => ?_)
              · have hne : ¬ ((decide (x + s < 3600) && ctN (RSk g) j 0 i (x + s)) ≠ bt b s) := by
                  apply not_not_intro
                  first
                  | (rw [hbs.mp c_37]
                     exact h0.mp c_61)
                  | (rcases hb1 with hb1 | hb1
                     · rw [hb1]
                       exact h1.mp c_61
                     · exact absurd (hbs.mpr hb1) c_37)
                refine a_iinc (ls' := [_, _, _, _, _, _, _]) (nI (s + 1)) hX dX7_check_69 rfl (nI_i1 s) rfl ?_
                refine a_goto 23 hX dX7_check_72 (by decide) ?_
                exact ih (s + 1) _ (by omega) (by omega) (by rw [hck, hstep, if_neg hne])
              · refine a_iload_n hX dX7_check_64 rfl ?_
                refine a_iload hX dX7_check_65 rfl ?_
                refine a_iadd hX dX7_check_67 ?_
                refine a_iret hX hR dX7_check_68 ⟨Nat.le_refl _, Nat.le_refl _⟩ rfl ?_
                have hne : (decide (x + s < 3600) && ctN (RSk g) j 0 i (x + s)) ≠ bt b s := by
                  first
                  | (rw [hbs.mp c_37]
                     intro z
                     exact c_61 (h0.mpr z))
                  | (rcases hb1 with hb1 | hb1
                     · rw [hb1]
                       intro z
                       exact c_61 (h1.mpr z)
                     · exact absurd (hbs.mpr hb1) c_37)
                exact po_int (h w11 hC11 hm11) (by rw [hS, hck, hstep, if_pos hne, nI_add])
      exact L23 33 0 none (by omega) (by omega) rfl
    · refine a_bipush (-2) hX dX7_check_17 (by decide) ?_
      refine a_iret hX hR dX7_check_19 ⟨Nat.le_refl _, Nat.le_refl _⟩ rfl ?_
      first | exact po_int (h w hC FrM.rf) (by unfold checkS; rw [if_neg (fun z => c_4 z.1)]) | exact po_int (h w11 hC11 hm11) (by unfold checkS; rw [if_neg (fun z => c_14 z.2)])
theorem fin_g {w0 w : St} {F G : Int32 × Sg} {Po : Option Value → St → Prop} (h : ∀ w' : St, CI F.2 w' → FrM w0 w' → Po (some (.int F.1)) w') (e : F = G) (hC : CI G.2 w) (hm : FrM w0 w) : Po (some (.int G.1)) w := by
  subst e
  exact h w hC hm
theorem todayS_0 {g : Sg} {t : Int32} (h : (todayS g t).1 = 0) : (todayS g t).2 = g := by
  unfold todayS at h ⊢
  split
  · next hz => rw [if_pos hz] at h; exact absurd (show (1 : Int32) = 0 from h) (by decide)
  · rfl
theorem okS_todayS {g : Sg} {t : Int32} (ho : okS g) : okS (todayS g t).2 := by
  unfold todayS
  split
  · next hz =>
    obtain ⟨x, hx, rfl⟩ := isD_ex hz.1
    have h3 := ho.1.2.2
    show okS (gL g, gn g, gp g, ix (nI x), ga g, gr g, gq g)
    rw [ix_nI (by omega)]
    exact okS_today ho hx ((nI_leI (by omega) (by omega)).mp hz.2)
  · exact ho
abbrev T_X7_take : Tr := fun lay av w Po => ∃ (g : Sg) (t c a b c4 d e f : Int32), av = [.ref (lay 0), .int t, .int c, .int a, .int b, .int c4, .int d, .int e, .int f] ∧ (CI g w) ∧ (okS g) ∧ ∀ w' : St, CI (takeS g t c a b c4 d e f).2 w' → FrM w w' → Po (some (.int (takeS g t c a b c4 d e f).1)) w'
set_option maxRecDepth 100000 in
set_option maxHeartbeats 4000000 in
theorem c_X7_take : Ct yX7_take cX7_take 9 (some .int) 7 1 9 T_X7_take := by
  refine Ct.mk2 (by decide +kernel) ?_
  intro X av w Po hX hR hZ hT
  obtain ⟨g, t, c, a, b, c4, d, e, f, rfl, hC, ho, h⟩ := hT
  refine ⟨rfl, ?_⟩
  show A X 0 0 0 [some (.ref (xlay X 0)), some (.int t), some (.int c), some (.int a), some (.int b), some (.int c4), some (.int d), some (.int e), some (.int f)] [] w
  refine a_iload_n hX dX7_take_0 rfl ?_
  refine a_if_lt 18 hX dX7_take_1 (by decide) (fun c_1 => ?_) (fun c_1 => ?_)
  · refine a_iconst (-1) hX dX7_take_18 (by decide) ?_
    refine a_iret hX hR dX7_take_19 ⟨Nat.le_of_ble_eq_true rfl, Nat.le_of_ble_eq_true rfl⟩ rfl ?_
    first
    | exact fin_o h (show takeS g t c a b c4 d e f = (-1, g) by unfold takeS; rw [if_pos (fun z => absurd z.1 (Int32.not_le.mpr c_1))]) hC FrM.rf
    | exact fin_o h (show takeS g t c a b c4 d e f = (-1, g) by unfold takeS; rw [if_pos (fun z => absurd z.2 (Int32.not_le.mpr c_7))]) hC FrM.rf
    | exact fin_o h (show takeS g t c a b c4 d e f = (-1, g) by unfold takeS; rw [if_pos c_15]; split <;> rfl) (by rw [todayS_0 c_15] at hC12; exact hC12) hm12
  · refine a_iload_n hX dX7_take_4 rfl ?_
    refine a_bipush (12) hX dX7_take_5 (by decide) ?_
    refine a_icmp_gt 18 hX dX7_take_7 (by decide) (fun c_7 => ?_) (fun c_7 => ?_)
    · refine a_iconst (-1) hX dX7_take_18 (by decide) ?_
      refine a_iret hX hR dX7_take_19 ⟨Nat.le_of_ble_eq_true rfl, Nat.le_of_ble_eq_true rfl⟩ rfl ?_
      first
      | exact fin_o h (show takeS g t c a b c4 d e f = (-1, g) by unfold takeS; rw [if_pos (fun z => absurd z.1 (Int32.not_le.mpr c_1))]) hC FrM.rf
      | exact fin_o h (show takeS g t c a b c4 d e f = (-1, g) by unfold takeS; rw [if_pos (fun z => absurd z.2 (Int32.not_le.mpr c_7))]) hC FrM.rf
      | exact fin_o h (show takeS g t c a b c4 d e f = (-1, g) by unfold takeS; rw [if_pos c_15]; split <;> rfl) (by rw [todayS_0 c_15] at hC12; exact hC12) hm12
    · refine a_aload_n hX dX7_take_10 rfl ?_
      refine a_iload_n hX dX7_take_11 rfl ?_
      refine a_callV [_] hX c_X7_today mi_X7_today mv_X7_today se_X7_today (klt rfl (by decide)) (adr_lt (kd_lt rfl (by decide))) (cell_7 rfl) rfl li_X7_224 (by decide) rfl rfl (Nat.le_of_ble_eq_true rfl) (fun q => q) dX7_take_12 ⟨_, _, rfl, hC, ho, ?_⟩
      intro w12 hC12 hm12
      refine a_if_ne 20 hX dX7_take_15 (by decide) (fun c_15 => ?_) (fun c_15 => ?_)
      · have ho12 := okS_todayS (t := t) ho
        refine a_iload_n hX dX7_take_20 rfl ?_
        have hc0 : 0 ≤ c ∧ c ≤ 12 := ⟨by first | exact Int32.not_lt.mp c_1 | exact c_1, by first | exact c_7 | exact Int32.not_lt.mp c_7⟩
        have hcc : c = 0 ∨ c = 1 ∨ c = 2 ∨ c = 3 ∨ c = 4 ∨ c = 5 ∨ c = 6 ∨ c = 7 ∨ c = 8 ∨ c = 9 ∨ c = 10 ∨ c = 11 ∨ c = 12 := by
          obtain ⟨y, hy, rfl⟩ := le_ex (n := 12) (by decide) hc0
          rcases (show y = 0 ∨ y = 1 ∨ y = 2 ∨ y = 3 ∨ y = 4 ∨ y = 5 ∨ y = 6 ∨ y = 7 ∨ y = 8 ∨ y = 9 ∨ y = 10 ∨ y = 11 ∨ y = 12 by omega) with rfl | rfl | rfl | rfl | rfl | rfl | rfl | rfl | rfl | rfl | rfl | rfl | rfl <;> decide
        rcases hcc with rfl | rfl | rfl | rfl | rfl | rfl | rfl | rfl | rfl | rfl | rfl | rfl | rfl
        · refine a_tableIn (off := 63) 84 hX dX7_take_21 (by decide) (by decide) (by decide) (by decide) ?_
          refine a_aload_n hX dX7_take_84 rfl ?_
          refine a_iload_n hX dX7_take_85 rfl ?_
          refine a_iload hX dX7_take_86 rfl ?_
          refine a_callV [_, _] hX c_X7_letter mi_X7_letter mv_X7_letter se_X7_letter (klt rfl (by decide)) (adr_lt (kd_lt rfl (by decide))) (cell_7 rfl) rfl li_X7_226 (by decide) rfl rfl (Nat.le_of_ble_eq_true rfl) (fun _ => hZ.1) dX7_take_88 ⟨_, _, _, rfl, hC12, ho12, ?_⟩
          intro wT hcT hmT
          refine a_iret hX hR dX7_take_91 ⟨Nat.le_of_ble_eq_true rfl, Nat.le_of_ble_eq_true rfl⟩ rfl ?_
          exact fin_g h (show takeS g t 0 a b c4 d e f = letterS (todayS g t).2 a b by unfold takeS; rw [if_neg (by decide), if_neg c_15, show ix (0 : Int32) = 0 from rfl]; simp [caS]) hcT (hm12.tr hmT)
        · refine a_tableIn (off := 71) 92 hX dX7_take_21 (by decide) (by decide) (by decide) (by decide) ?_
          refine a_aload_n hX dX7_take_92 rfl ?_
          refine a_iload_n hX dX7_take_93 rfl ?_
          refine a_iload hX dX7_take_94 rfl ?_
          refine a_iload hX dX7_take_96 rfl ?_
          refine a_iload hX dX7_take_98 rfl ?_
          refine a_callV [_, _, _, _] hX c_X7_term mi_X7_term mv_X7_term se_X7_term (klt rfl (by decide)) (adr_lt (kd_lt rfl (by decide))) (cell_7 rfl) rfl li_X7_229 (by decide) rfl rfl (Nat.le_of_ble_eq_true rfl) (fun _ => hZ.1) dX7_take_100 ⟨_, _, _, _, _, rfl, hC12, ho12, ?_⟩
          intro wT hcT hmT
          refine a_iret hX hR dX7_take_103 ⟨Nat.le_of_ble_eq_true rfl, Nat.le_of_ble_eq_true rfl⟩ rfl ?_
          exact fin_g h (show takeS g t 1 a b c4 d e f = termS (todayS g t).2 a b c4 d by unfold takeS; rw [if_neg (by decide), if_neg c_15, show ix (1 : Int32) = 1 from rfl]; simp [caS]) hcT (hm12.tr hmT)
        · refine a_tableIn (off := 83) 104 hX dX7_take_21 (by decide) (by decide) (by decide) (by decide) ?_
          refine a_aload_n hX dX7_take_104 rfl ?_
          refine a_iload_n hX dX7_take_105 rfl ?_
          refine a_iload hX dX7_take_106 rfl ?_
          refine a_iload hX dX7_take_108 rfl ?_
          refine a_iload hX dX7_take_110 rfl ?_
          refine a_iload hX dX7_take_112 rfl ?_
          refine a_iload hX dX7_take_114 rfl ?_
          refine a_callV [_, _, _, _, _, _] hX c_X7_waits mi_X7_waits mv_X7_waits se_X7_waits (klt rfl (by decide)) (adr_lt (kd_lt rfl (by decide))) (cell_7 rfl) rfl li_X7_233 (by decide) rfl rfl (Nat.le_of_ble_eq_true rfl) (fun _ => hZ.1) dX7_take_116 ⟨_, _, _, _, _, _, _, rfl, hC12, ho12, ?_⟩
          intro wT hcT hmT
          refine a_iret hX hR dX7_take_119 ⟨Nat.le_of_ble_eq_true rfl, Nat.le_of_ble_eq_true rfl⟩ rfl ?_
          exact fin_g h (show takeS g t 2 a b c4 d e f = waitsS (todayS g t).2 a b c4 d e f by unfold takeS; rw [if_neg (by decide), if_neg c_15, show ix (2 : Int32) = 2 from rfl]; simp [caS]) hcT (hm12.tr hmT)
        · refine a_tableIn (off := 99) 120 hX dX7_take_21 (by decide) (by decide) (by decide) (by decide) ?_
          refine a_aload_n hX dX7_take_120 rfl ?_
          refine a_iload_n hX dX7_take_121 rfl ?_
          refine a_iload hX dX7_take_122 rfl ?_
          refine a_iload hX dX7_take_124 rfl ?_
          refine a_iload hX dX7_take_126 rfl ?_
          refine a_iload hX dX7_take_128 rfl ?_
          refine a_iload hX dX7_take_130 rfl ?_
          refine a_callV [_, _, _, _, _, _] hX c_X7_stay mi_X7_stay mv_X7_stay se_X7_stay (klt rfl (by decide)) (adr_lt (kd_lt rfl (by decide))) (cell_7 rfl) rfl li_X7_237 (by decide) rfl rfl (Nat.le_of_ble_eq_true rfl) (fun _ => hZ.1) dX7_take_132 ⟨_, _, _, _, _, _, _, rfl, hC12, ho12, ?_⟩
          intro wT hcT hmT
          refine a_iret hX hR dX7_take_135 ⟨Nat.le_of_ble_eq_true rfl, Nat.le_of_ble_eq_true rfl⟩ rfl ?_
          exact fin_g h (show takeS g t 3 a b c4 d e f = stayS (todayS g t).2 a b c4 d e f by unfold takeS; rw [if_neg (by decide), if_neg c_15, show ix (3 : Int32) = 3 from rfl]; simp [caS]) hcT (hm12.tr hmT)
        · refine a_tableIn (off := 115) 136 hX dX7_take_21 (by decide) (by decide) (by decide) (by decide) ?_
          refine a_aload_n hX dX7_take_136 rfl ?_
          refine a_iload_n hX dX7_take_137 rfl ?_
          refine a_iload hX dX7_take_138 rfl ?_
          refine a_iload hX dX7_take_140 rfl ?_
          refine a_callV [_, _, _] hX c_X7_quash mi_X7_quash mv_X7_quash se_X7_quash (klt rfl (by decide)) (adr_lt (kd_lt rfl (by decide))) (cell_7 rfl) rfl li_X7_240 (by decide) rfl rfl (Nat.le_of_ble_eq_true rfl) (fun _ => hZ.1) dX7_take_142 ⟨_, _, _, _, rfl, hC12, ho12, ?_⟩
          intro wT hcT hmT
          refine a_iret hX hR dX7_take_145 ⟨Nat.le_of_ble_eq_true rfl, Nat.le_of_ble_eq_true rfl⟩ rfl ?_
          exact fin_g h (show takeS g t 4 a b c4 d e f = quashS (todayS g t).2 a b c4 by unfold takeS; rw [if_neg (by decide), if_neg c_15, show ix (4 : Int32) = 4 from rfl]; simp [caS]) hcT (hm12.tr hmT)
        · refine a_tableIn (off := 125) 146 hX dX7_take_21 (by decide) (by decide) (by decide) (by decide) ?_
          refine a_aload_n hX dX7_take_146 rfl ?_
          refine a_iload_n hX dX7_take_147 rfl ?_
          refine a_iload hX dX7_take_148 rfl ?_
          refine a_iload hX dX7_take_150 rfl ?_
          refine a_if_eq 159 hX dX7_take_152 (by decide) (fun c_152 => ?_) (fun c_152 => ?_)
          · refine a_iconst (0) hX dX7_take_159 (by decide) ?_
            refine a_iload hX dX7_take_160 rfl ?_
            refine a_callV [_, _, _, _] hX c_X7_month mi_X7_month mv_X7_month se_X7_month (klt rfl (by decide)) (adr_lt (kd_lt rfl (by decide))) (cell_7 rfl) rfl li_X7_243 (by decide) rfl rfl (Nat.le_of_ble_eq_true rfl) (fun _ => hZ.1) dX7_take_162 ⟨_, _, _, _, _, rfl, hC12, ho12, ?_⟩
            intro wT hcT hmT
            refine a_iret hX hR dX7_take_165 ⟨Nat.le_of_ble_eq_true rfl, Nat.le_of_ble_eq_true rfl⟩ rfl ?_
            first
            | exact fin_g h (show takeS g t 5 a b c4 d e f = monthS (todayS g t).2 a b 0 d by unfold takeS; rw [if_neg (by decide), if_neg c_15, show ix (5 : Int32) = 5 from rfl]; simp [caS, c_152]) hcT (hm12.tr hmT)
            | exact fin_g h (show takeS g t 5 a b c4 d e f = monthS (todayS g t).2 a b 1 d by unfold takeS; rw [if_neg (by decide), if_neg c_15, show ix (5 : Int32) = 5 from rfl]; simp [caS, c_152]) hcT (hm12.tr hmT)
          · refine a_iconst (1) hX dX7_take_155 (by decide) ?_
            refine a_goto 160 hX dX7_take_156 (by decide) ?_
            refine a_iload hX dX7_take_160 rfl ?_
            refine a_callV [_, _, _, _] hX c_X7_month mi_X7_month mv_X7_month se_X7_month (klt rfl (by decide)) (adr_lt (kd_lt rfl (by decide))) (cell_7 rfl) rfl li_X7_243 (by decide) rfl rfl (Nat.le_of_ble_eq_true rfl) (fun _ => hZ.1) dX7_take_162 ⟨_, _, _, _, _, rfl, hC12, ho12, ?_⟩
            intro wT hcT hmT
            refine a_iret hX hR dX7_take_165 ⟨Nat.le_of_ble_eq_true rfl, Nat.le_of_ble_eq_true rfl⟩ rfl ?_
            first
            | exact fin_g h (show takeS g t 5 a b c4 d e f = monthS (todayS g t).2 a b 0 d by unfold takeS; rw [if_neg (by decide), if_neg c_15, show ix (5 : Int32) = 5 from rfl]; simp [caS, c_152]) hcT (hm12.tr hmT)
            | exact fin_g h (show takeS g t 5 a b c4 d e f = monthS (todayS g t).2 a b 1 d by unfold takeS; rw [if_neg (by decide), if_neg c_15, show ix (5 : Int32) = 5 from rfl]; simp [caS, c_152]) hcT (hm12.tr hmT)
        · refine a_tableIn (off := 145) 166 hX dX7_take_21 (by decide) (by decide) (by decide) (by decide) ?_
          refine a_aload_n hX dX7_take_166 rfl ?_
          refine a_iload_n hX dX7_take_167 rfl ?_
          refine a_iload hX dX7_take_168 rfl ?_
          refine a_iload hX dX7_take_170 rfl ?_
          refine a_iload hX dX7_take_172 rfl ?_
          refine a_callV [_, _, _, _] hX c_X7_held mi_X7_held mv_X7_held se_X7_held (klt rfl (by decide)) (adr_lt (kd_lt rfl (by decide))) (cell_7 rfl) rfl li_X7_247 (by decide) rfl rfl (Nat.le_of_ble_eq_true rfl) (fun _ => hZ.1) dX7_take_174 ⟨_, _, _, _, _, rfl, hC12, ho12, ?_⟩
          intro wT hcT hmT
          refine a_iret hX hR dX7_take_177 ⟨Nat.le_of_ble_eq_true rfl, Nat.le_of_ble_eq_true rfl⟩ rfl ?_
          exact fin_g h (show takeS g t 6 a b c4 d e f = heldS (todayS g t).2 a b c4 d by unfold takeS; rw [if_neg (by decide), if_neg c_15, show ix (6 : Int32) = 6 from rfl]; simp [caS]) hcT (hm12.tr hmT)
        · refine a_tableIn (off := 157) 178 hX dX7_take_21 (by decide) (by decide) (by decide) (by decide) ?_
          refine a_aload_n hX dX7_take_178 rfl ?_
          refine a_iload_n hX dX7_take_179 rfl ?_
          refine a_iload hX dX7_take_180 rfl ?_
          refine a_callV [_, _] hX c_X7_tear mi_X7_tear mv_X7_tear se_X7_tear (klt rfl (by decide)) (adr_lt (kd_lt rfl (by decide))) (cell_7 rfl) rfl li_X7_250 (by decide) rfl rfl (Nat.le_of_ble_eq_true rfl) (fun _ => hZ.1) dX7_take_182 ⟨_, _, _, rfl, hC12, ho12, ?_⟩
          intro wT hcT hmT
          refine a_iret hX hR dX7_take_185 ⟨Nat.le_of_ble_eq_true rfl, Nat.le_of_ble_eq_true rfl⟩ rfl ?_
          exact fin_g h (show takeS g t 7 a b c4 d e f = tearS (todayS g t).2 a b by unfold takeS; rw [if_neg (by decide), if_neg c_15, show ix (7 : Int32) = 7 from rfl]; simp [caS]) hcT (hm12.tr hmT)
        · refine a_tableIn (off := 165) 186 hX dX7_take_21 (by decide) (by decide) (by decide) (by decide) ?_
          refine a_aload_n hX dX7_take_186 rfl ?_
          refine a_iload_n hX dX7_take_187 rfl ?_
          refine a_iload hX dX7_take_188 rfl ?_
          refine a_iload hX dX7_take_190 rfl ?_
          refine a_iload hX dX7_take_192 rfl ?_
          refine a_callV [_, _, _, _] hX c_X7_copy mi_X7_copy mv_X7_copy se_X7_copy (klt rfl (by decide)) (adr_lt (kd_lt rfl (by decide))) (cell_7 rfl) rfl li_X7_253 (by decide) rfl rfl (Nat.le_of_ble_eq_true rfl) (fun _ => hZ.1) dX7_take_194 ⟨_, _, _, _, _, rfl, hC12, ho12, ?_⟩
          intro wT hcT hmT
          refine a_iret hX hR dX7_take_197 ⟨Nat.le_of_ble_eq_true rfl, Nat.le_of_ble_eq_true rfl⟩ rfl ?_
          exact fin_g h (show takeS g t 8 a b c4 d e f = copyS (todayS g t).2 a b c4 d by unfold takeS; rw [if_neg (by decide), if_neg c_15, show ix (8 : Int32) = 8 from rfl]; simp [caS]) hcT (hm12.tr hmT)
        · refine a_tableIn (off := 177) 198 hX dX7_take_21 (by decide) (by decide) (by decide) (by decide) ?_
          refine a_aload_n hX dX7_take_198 rfl ?_
          refine a_iload_n hX dX7_take_199 rfl ?_
          refine a_iload hX dX7_take_200 rfl ?_
          refine a_iload hX dX7_take_202 rfl ?_
          refine a_iload hX dX7_take_204 rfl ?_
          refine a_callV [_, _, _, _] hX c_X7_off mi_X7_off mv_X7_off se_X7_off (klt rfl (by decide)) (adr_lt (kd_lt rfl (by decide))) (cell_7 rfl) rfl li_X7_256 (by decide) rfl rfl (Nat.le_of_ble_eq_true rfl) (fun _ => hZ.1) dX7_take_206 ⟨_, _, _, _, _, rfl, hC12, ho12, ?_⟩
          intro wT hcT hmT
          refine a_iret hX hR dX7_take_209 ⟨Nat.le_of_ble_eq_true rfl, Nat.le_of_ble_eq_true rfl⟩ rfl ?_
          exact fin_g h (show takeS g t 9 a b c4 d e f = offS (todayS g t).2 a b c4 d by unfold takeS; rw [if_neg (by decide), if_neg c_15, show ix (9 : Int32) = 9 from rfl]; simp [caS]) hcT (hm12.tr hmT)
        · refine a_tableIn (off := 189) 210 hX dX7_take_21 (by decide) (by decide) (by decide) (by decide) ?_
          refine a_aload_n hX dX7_take_210 rfl ?_
          refine a_iload_n hX dX7_take_211 rfl ?_
          refine a_iload hX dX7_take_212 rfl ?_
          refine a_iload hX dX7_take_214 rfl ?_
          refine a_callV [_, _, _] hX c_X7_back mi_X7_back mv_X7_back se_X7_back (klt rfl (by decide)) (adr_lt (kd_lt rfl (by decide))) (cell_7 rfl) rfl li_X7_259 (by decide) rfl rfl (Nat.le_of_ble_eq_true rfl) (fun _ => hZ.1) dX7_take_216 ⟨_, _, _, _, rfl, hC12, ho12, ?_⟩
          intro wT hcT hmT
          refine a_iret hX hR dX7_take_219 ⟨Nat.le_of_ble_eq_true rfl, Nat.le_of_ble_eq_true rfl⟩ rfl ?_
          exact fin_g h (show takeS g t 10 a b c4 d e f = backS (todayS g t).2 a b c4 by unfold takeS; rw [if_neg (by decide), if_neg c_15, show ix (10 : Int32) = 10 from rfl]; simp [caS]) hcT (hm12.tr hmT)
        · refine a_tableIn (off := 199) 220 hX dX7_take_21 (by decide) (by decide) (by decide) (by decide) ?_
          refine a_aload_n hX dX7_take_220 rfl ?_
          refine a_iload_n hX dX7_take_221 rfl ?_
          refine a_iload hX dX7_take_222 rfl ?_
          refine a_callV [_, _] hX c_X7_grant mi_X7_grant mv_X7_grant se_X7_grant (klt rfl (by decide)) (adr_lt (kd_lt rfl (by decide))) (cell_7 rfl) rfl li_X7_262 (by decide) rfl rfl (Nat.le_of_ble_eq_true rfl) (fun _ => hZ.1) dX7_take_224 ⟨_, _, _, rfl, hC12, ho12, ?_⟩
          intro wT hcT hmT
          refine a_iret hX hR dX7_take_227 ⟨Nat.le_of_ble_eq_true rfl, Nat.le_of_ble_eq_true rfl⟩ rfl ?_
          exact fin_g h (show takeS g t 11 a b c4 d e f = grantS (todayS g t).2 a b by unfold takeS; rw [if_neg (by decide), if_neg c_15, show ix (11 : Int32) = 11 from rfl]; simp [caS]) hcT (hm12.tr hmT)
        · refine a_tableOut 228 hX dX7_take_21 (by decide) (by decide) ?_
          refine a_aload_n hX dX7_take_228 rfl ?_
          refine a_iload_n hX dX7_take_229 rfl ?_
          refine a_iload hX dX7_take_230 rfl ?_
          refine a_iload hX dX7_take_232 rfl ?_
          refine a_iload hX dX7_take_234 rfl ?_
          refine a_callV [_, _, _, _] hX c_X7_recall mi_X7_recall mv_X7_recall se_X7_recall (klt rfl (by decide)) (adr_lt (kd_lt rfl (by decide))) (cell_7 rfl) rfl li_X7_265 (by decide) rfl rfl (Nat.le_of_ble_eq_true rfl) (fun _ => hZ.1) dX7_take_236 ⟨_, _, _, _, _, rfl, hC12, ho12, ?_⟩
          intro wT hcT hmT
          refine a_iret hX hR dX7_take_239 ⟨Nat.le_of_ble_eq_true rfl, Nat.le_of_ble_eq_true rfl⟩ rfl ?_
          exact fin_g h (show takeS g t 12 a b c4 d e f = recallS (todayS g t).2 a b c4 d by unfold takeS; rw [if_neg (by decide), if_neg c_15, show ix (12 : Int32) = 12 from rfl]; simp [caS]) hcT (hm12.tr hmT)
      · refine a_iconst (-1) hX dX7_take_18 (by decide) ?_
        refine a_iret hX hR dX7_take_19 ⟨Nat.le_of_ble_eq_true rfl, Nat.le_of_ble_eq_true rfl⟩ rfl ?_
        first
        | exact fin_o h (show takeS g t c a b c4 d e f = (-1, g) by unfold takeS; rw [if_pos (fun z => absurd z.1 (Int32.not_le.mpr c_1))]) hC FrM.rf
        | exact fin_o h (show takeS g t c a b c4 d e f = (-1, g) by unfold takeS; rw [if_pos (fun z => absurd z.2 (Int32.not_le.mpr c_7))]) hC FrM.rf
        | exact fin_o h (show takeS g t c a b c4 d e f = (-1, g) by unfold takeS; rw [if_pos c_15]; split <;> rfl) (by rw [todayS_0 c_15] at hC12; exact hC12) hm12
