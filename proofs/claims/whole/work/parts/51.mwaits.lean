/-! the reference: waits, take -/
theorem isRg_wk {E : Nat → Nat → Bool} {p n : Nat} {v : Nat → Nat} (h : isRg E p n v) (hp : p < 12) : wk E n p p := by
  refine wk_path.mpr ⟨fun j => if j < n then v j else p, ?_, ?_, fun i hi => ?_⟩
  · show (if 0 < n then v 0 else p) = p
    rw [if_pos (show 0 < n from h.1)]; exact h.2.1
  · show (if n < n then v n else p) = p
    rw [if_neg (Nat.lt_irrefl _)]
  · show (if i + 1 < n then v (i + 1) else p) < 12 ∧ E (if i < n then v i else p) (if i + 1 < n then v (i + 1) else p) = true
    rw [if_pos hi]
    have h9 := isRg_nx h hp hi
    exact ⟨h9.2, h9.1⟩
theorem EM_new {w : St} {PP : Nat → Nat → Int32} {i : Nat} {k s : Int32} (hM : MPl w PP) (hv : vP PP) (hi : i < 12) (hk : 3 ≤ k ∧ k ≤ 5) {m : Nat} {v : Nat → Nat} : isRg (EM (wset (wset w 224 i k) 228 i s)) i m v ↔ isRg (newE PP i s) i m v := by
  have hk2 : k ≠ 2 := fun z => by rw [z] at hk; exact absurd hk.1 (by decide)
  have hkr : 2 ≤ k ∧ k ≤ 5 := ⟨Int32.le_trans (by decide) hk.1, hk.2⟩
  have e24 : ∀ a, (wset (wset w 224 i k) 228 i s).1 224 a = if a = i then k else w.1 224 a := fun a => by
    rw [wset_ne _ _ _ _ (by decide), wset_1]
    by_cases q : a = i
    · rw [if_pos ⟨rfl, q⟩, if_pos q]
    · rw [if_neg (fun z => q z.2), if_neg q]
  have e28 : ∀ a, (wset (wset w 224 i k) 228 i s).1 228 a = if a = i then s else w.1 228 a := fun a => by
    rw [wset_1]
    by_cases q : a = i
    · rw [if_pos ⟨rfl, q⟩, if_pos q]
    · rw [if_neg (fun z => q z.2), if_neg q, wset_ne _ _ _ _ (by decide)]
  have fwd : ∀ a o, a < 12 → EM (wset (wset w 224 i k) 228 i s) a o = true → newE PP i s a o = true := fun a o ha he => by
    obtain ⟨h1, h2, h3, h4⟩ := EM_iff.mp he
    rw [e24] at h1 h2
    rw [e28] at h4
    unfold newE
    by_cases q : a = i
    · rw [if_pos q] at h4 ⊢; exact h4
    · rw [if_neg q] at h1 h2 h4 ⊢
      rw [Bool.and_eq_true]
      refine ⟨?_, by rw [← (hM a ha).2.1]; exact h4⟩
      unfold runsB
      rw [decide_eq_true_eq, ← (hM a ha).1]
      exact h2
  have runsO : ∀ o, o < 12 → (∃ y, newE PP i s o y = true) → 2 ≤ (if o = i then k else w.1 224 o) ∧ (if o = i then k else w.1 224 o) ≤ 5 := fun o ho ⟨y, hy⟩ => by
    by_cases q : o = i
    · rw [if_pos q]; exact hkr
    · rw [if_neg q, (hM o ho).1]
      unfold newE at hy
      rw [if_neg q, Bool.and_eq_true] at hy
      have h9 := hy.1
      unfold runsB at h9
      rw [decide_eq_true_eq] at h9
      exact h9
  have bwd : ∀ a o, a < 12 → o < 12 → newE PP i s a o = true → (∃ y, newE PP i s o y = true) → EM (wset (wset w 224 i k) 228 i s) a o = true := fun a o ha ho he hy => by
    refine EM_iff.mpr ⟨?_, ?_, ?_, ?_⟩
    · rw [e24]
      by_cases q : a = i
      · rw [if_pos q]; exact hk2
      · rw [if_neg q, (hM a ha).1]
        intro z
        have h4 := (hv a ha).2.2.2.2.2.2.2.2.2 z
        unfold newE at he
        rw [if_neg q, Bool.and_eq_true, h4, b_0] at he
        exact absurd he.2 (by decide)
    · rw [e24]; exact runsO a ha ⟨o, he⟩
    · rw [e24]; exact runsO o ho hy
    · rw [e28]
      unfold newE at he
      by_cases q : a = i
      · rw [if_pos q] at he ⊢; exact he
      · rw [if_neg q] at he ⊢
        rw [Bool.and_eq_true] at he
        rw [(hM a ha).2.1]; exact he.2
  constructor
  · rintro ⟨a, b, c, d, e, f⟩
    exact ⟨a, b, c, fun x hx => fwd _ _ (c x (by omega)) (d x hx), fwd _ _ (c _ (by omega)) e, f⟩
  · intro h
    have hnx := fun x (hx : x < m) => isRg_nx h hi hx
    obtain ⟨a, b, c, d, e, f⟩ := h
    refine ⟨a, b, c, fun x hx => bwd _ _ (c x (by omega)) (c _ hx) (d x hx) ⟨_, (hnx (x + 1) hx).1⟩, bwd _ _ (c _ (by omega)) hi e ⟨_, by have h9 := (hnx 0 (by omega)).1; rw [b] at h9; exact h9⟩, f⟩
theorem FrS.rg {w w' : St} (hf : Fr w w' (fun z => z = 221 ∨ (243 ≤ z ∧ z ≤ 246))) (hk : ∀ k, k ≠ 30 → w'.1 221 k = w.1 221 k) : FrS w w' := ⟨⟨hf.1, fun r a b => hf.2 r (by omega)⟩, fun k a b => hk k b⟩
theorem MD.rng {g : Sg} {w w' : St} {n : Nat} {q : Nat → Nat} (h : MD g w) (hf : ∀ r, r ≠ 221 → r ≠ 247 → w'.1 r = w.1 r) (hk : ∀ k, k ≠ 32 → w'.1 221 k = w.1 221 k) (h1 : w'.1 221 32 = nI n) (h2 : ∀ j, j < n → w'.1 247 j = nI (q j)) : MD (gL g, gn g, gp g, gt g, ga g, n, q) w' := by
  obtain ⟨⟨a, b, c, d⟩, e, f, i, j⟩ := h
  exact ⟨⟨by rw [hk 0 (by decide)]; exact a, by rw [hk 1 (by decide)]; exact b, by rw [hk 2 (by decide)]; exact c, by rw [hk 5 (by decide)]; exact d⟩, by rw [hf 222 (by decide) (by decide)]; exact e, by rw [hf 223 (by decide) (by decide)]; exact f, h1, h2⟩
theorem todayS8 {g : Sg} {t : Int32} (h : (todayS g t).1 = 0) : (todayS g t).2 = g := todayS_0 h
abbrev T_X8_waits : Tr := fun lay av w Po => ∃ (g : Sg) (p l k f n s : Int32), av = [.ref (lay 221), .int p, .int l, .int k, .int f, .int n, .int s] ∧ (MD g w) ∧ (okS g) ∧ ∀ w' : St, MD (waitsS g p l k f n s).2 w' → FrC w w' → Po (some (.int (waitsS g p l k f n s).1)) w'
set_option maxRecDepth 100000 in
set_option maxHeartbeats 4000000 in
theorem c_X8_waits : Ct yX8_waits cX8_waits 9 (some .int) 4 0 0 T_X8_waits := by
  refine Ct.mk (by decide +kernel) ?_
  intro X av w Po hX hR hT
  obtain ⟨g, p, l, k, f, n, s, rfl, hD, ho, h⟩ := hT
  refine ⟨rfl, ?_⟩
  show A X 0 0 0 [some (.ref (xlay X 221)), some (.int p), some (.int l), some (.int k), some (.int f), some (.int n), some (.int s), none, none] [] w
  refine a_aload_n hX dX8_waits_0 rfl ?_
  refine a_iload_n hX dX8_waits_1 rfl ?_
  refine a_iload_n hX dX8_waits_2 rfl ?_
  refine a_callV [_, _] hX c_X8_room mi_X8_room mv_X8_room se_X8_room (klt rfl (by decide)) (adr_lt (kd_lt rfl (by decide))) (cell_8 rfl) rfl li_X8_156 (by decide) rfl rfl (Nat.le_of_ble_eq_true rfl) (fun q => q) dX8_waits_3 ⟨_, _, _, rfl, hD, ho, ?_⟩
  intro w3 h3 hm3
  have hD3 := hD.s h3
  refine a_istore (ls' := [_, _, _, _, _, _, _, _, _]) hX dX8_waits_6 (Nat.le_of_ble_eq_true rfl) rfl ?_
  refine a_iload hX dX8_waits_8 rfl ?_
  refine a_if_le 16 hX dX8_waits_10 (by decide) (fun c_10 => ?_) (fun c_10 => ?_)
  · have hs4 := isS4 s
    refine a_iload hX dX8_waits_16 rfl ?_
    refine a_iload hX dX8_waits_18 rfl ?_
    refine a_callS [_, _] hX c_X8_isTerm mi_X8_isTerm ms_X8_isTerm li_X8_166 (by decide) rfl rfl (Nat.le_of_ble_eq_true rfl) (fun q => q) dX8_waits_20 ⟨_, _, rfl, ?_⟩
    refine a_if_eq_b 49 hX dX8_waits_23 (by decide) (fun c_23 => ?_) (fun c_23 => ?_)
    · refine a_iconst (3) hX dX8_waits_49 (by decide) ?_
      refine a_iret hX hR dX8_waits_50 ⟨Nat.le_refl _, Nat.le_refl _⟩ rfl ?_
      exact fin_o8 h (by unfold waitsS; rw [if_neg (not_not_intro (room_le.mp c_10)), if_pos (by grind)]) hD3 h3.C
    · refine a_iload_n hX dX8_waits_26 rfl ?_
      refine a_iconst (3) hX dX8_waits_27 (by decide) ?_
      refine a_icmp_lt 49 hX dX8_waits_28 (by decide) (fun c_28 => ?_) (fun c_28 => ?_)
      · refine a_iconst (3) hX dX8_waits_49 (by decide) ?_
        refine a_iret hX hR dX8_waits_50 ⟨Nat.le_refl _, Nat.le_refl _⟩ rfl ?_
        exact fin_o8 h (by unfold waitsS; rw [if_neg (not_not_intro (room_le.mp c_10)), if_pos (by grind)]) hD3 h3.C
      · refine a_iload_n hX dX8_waits_31 rfl ?_
        refine a_iconst (5) hX dX8_waits_32 (by decide) ?_
        refine a_icmp_gt 49 hX dX8_waits_33 (by decide) (fun c_33 => ?_) (fun c_33 => ?_)
        · refine a_iconst (3) hX dX8_waits_49 (by decide) ?_
          refine a_iret hX hR dX8_waits_50 ⟨Nat.le_refl _, Nat.le_refl _⟩ rfl ?_
          exact fin_o8 h (by unfold waitsS; rw [if_neg (not_not_intro (room_le.mp c_10)), if_pos (by grind)]) hD3 h3.C
        · refine a_iload hX dX8_waits_36 rfl ?_
          refine a_if_lt 49 hX dX8_waits_38 (by decide) (fun c_38 => ?_) (fun c_38 => ?_)
          · refine a_iconst (3) hX dX8_waits_49 (by decide) ?_
            refine a_iret hX hR dX8_waits_50 ⟨Nat.le_refl _, Nat.le_refl _⟩ rfl ?_
            exact fin_o8 h (by unfold waitsS; rw [if_neg (not_not_intro (room_le.mp c_10)), if_pos (by grind)]) hD3 h3.C
          · refine a_iload hX dX8_waits_41 rfl ?_
            refine a_sipush (4095) hX dX8_waits_43 (by decide) ?_
            refine a_icmp_le 51 hX dX8_waits_46 (by decide) (fun c_46 => ?_) (fun c_46 => ?_)
            · have hr0 := room_le.mp c_10
              have hkk : 3 ≤ k ∧ k ≤ 5 := ⟨by grind, by grind⟩
              have hss : isS s := ⟨by grind, by grind⟩
              obtain ⟨hp0, hl0, -⟩ := roomS_0 hr0
              have hM3 := hm3 (by rw [hr0]; decide)
              obtain ⟨j, hjg, hj6, rfl⟩ := isP_ex ho hp0
              obtain ⟨i, hi, rfl⟩ := isL_ex hl0
              have hjx : ix (nI j) = j := ix_nI (by omega)
              have hix : ix (nI i) = i := ix_nI (by omega)
              rw [hjx] at hM3
              have hnw : nwE g (nI j) (nI i) s = newE ((RSn g).1 j) i s := by
                unfold nwE
                rw [hjx, hix]
              have hth := thru_new (p := i) (s := s) (ho.n.1 j hj6).2.1
              have hEM : ∀ m v, isRg (EM (wset (wset w3 224 i k) 228 i s)) i m v ↔ isRg (newE ((RSn g).1 j) i s) i m v := fun m v => EM_new hM3.1 (ho.n.1 j hj6).1 hi hkk
              have hSA : FrS w3 (wset (wset w3 224 i k) 228 i s) := (FrS.rf.set (by decide) (by decide)).set (by decide) (by decide)
              have hDA := hD3.s hSA
              have hmA : FrC w (wset (wset w3 224 i k) 228 i s) := h3.C.tr hSA.C
              refine a_aload_n hX dX8_waits_51 rfl ?_
              refine gf_X8_20 rfl hX dX8_waits_52 ?_
              refine a_iload_n hX dX8_waits_55 rfl ?_
              refine a_iload_n hX dX8_waits_56 rfl ?_
              refine a_iast (i) hX rfl rfl (show _ < 12 by omega) dX8_waits_57 ?_
              refine a_aload_n hX dX8_waits_58 rfl ?_
              refine gf_X8_32 rfl hX dX8_waits_59 ?_
              refine a_iload_n hX dX8_waits_62 rfl ?_
              refine a_iload hX dX8_waits_63 rfl ?_
              refine a_iast (i) hX rfl rfl (show _ < 12 by omega) dX8_waits_65 ?_
              refine a_aload_n hX dX8_waits_66 rfl ?_
              refine a_iload_n hX dX8_waits_67 rfl ?_
              refine a_callV [_] hX c_X8_isRing mi_X8_isRing mv_X8_isRing se_X8_isRing (klt rfl (by decide)) (adr_lt (kd_lt rfl (by decide))) (cell_8 rfl) rfl li_X8_180 (by decide) rfl rfl (Nat.le_of_ble_eq_true rfl) (fun q => q) dX8_waits_68 ⟨_, rfl, hi, ?_⟩
              refine ⟨fun w68 n68 t68 hf68 hk68 h168 h1268 hs68 ht68 hv68 hl68 => ?_, fun w68 hf68 hk68 hno68 => ?_⟩
              · have hS68 := FrS.rg hf68 hk68
                have hex : ∃ x : Nat × (Nat → Nat), ringOf (nwE g (nI j) (nI i) s) (ix (nI i)) x.1 x.2 := by
                  obtain ⟨v, hv1, hv2⟩ := hv68
                  rw [hnw, hix]
                  exact ring_ex hi ⟨n68, h168, h1268, isRg_wk ((hEM n68 v).mp hv1) hi⟩
                have hrg := rgN_spec hex
                rw [hnw, hix] at hrg
                have hanti : (rgN (newE ((RSn g).1 j) i s) i).1 = n68 ∧ ∀ x, x < (rgN (newE ((RSn g).1 j) i s) i).1 → (rgN (newE ((RSn g).1 j) i s) i).2 x = t68 x := by
                  obtain ⟨v, hv1, hv2⟩ := hv68
                  obtain ⟨v', hv3, hv4⟩ := ring_is hi hth hrg
                  exact (ring_le hrg hi ((hEM n68 v).mp hv1) hv2).anti (hl68 _ v' _ ((hEM _ v').mpr hv3) hv4)
                refine a_if_eq_b 116 hX dX8_waits_71 (by decide) (fun c_71 => ?_) (fun c_71 => ?_)
                · exact absurd trivial c_71
                · refine a_aload_n hX dX8_waits_74 rfl ?_
                  refine a_aload_n hX dX8_waits_75 rfl ?_
                  refine gf_X8_170 rfl hX dX8_waits_76 ?_
                  rw [hs68]
                  refine pf_X8_183 rfl hX dX8_waits_79 ?_
                  refine a_iconst (0) hX dX8_waits_82 (by decide) ?_
                  refine a_istore (ls' := [_, _, _, _, _, _, _, _, _]) hX dX8_waits_83 (Nat.le_of_ble_eq_true rfl) rfl ?_
                  have L85 : ∀ (fu : Nat) (x : Nat) (w4 : St), 13 - x < fu → (x ≤ n68) → (w4.2 = w68.2) → (∀ r, r ≠ 221 → r ≠ 247 → w4.1 r = w68.1 r) → ((∀ q, q ≠ 32 → w4.1 221 q = w68.1 221 q) ∧ w4.1 221 32 = nI n68) → (∀ y, y < x → w4.1 247 y = nI (t68 y)) → A X 0 0 85 [some (.ref (xlay X 221)), some (.int (nI j)), some (.int (nI i)), some (.int k), some (.int f), some (.int n), some (.int s), some (.int (roomS g (nI j) (nI i))), some (.int (nI x))] [] w4 := by
                    intro fu
                    induction fu with
                    | zero => intro x w4 hmu; exact absurd hmu (Nat.not_lt_zero _)
                    | succ fu ih =>
                      intro x w4 hmu hxn hw4 hf4 hk4 hr4
                      refine a_iload hX dX8_waits_85 rfl ?_
                      refine a_aload_n hX dX8_waits_87 rfl ?_
                      refine gf_X8_183 rfl hX dX8_waits_88 ?_
                      rw [hk4.2]
                      refine a_icmp_ge 114 hX dX8_waits_91 (by decide) (fun c_91 => ?_) (fun c_91 => ?_)
                      · refine a_iconst (4) hX dX8_waits_114 (by decide) ?_
                        refine a_iret hX hR dX8_waits_115 ⟨Nat.le_refl _, Nat.le_refl _⟩ rfl ?_
                        have hxn : x = n68 := by
                          rcases Nat.lt_or_ge x n68 with q | q
                          · exact absurd (nI_lt q (by omega)) (Int32.not_lt.mpr c_91)
                          · omega
                        subst hxn
                        have hS : waitsS g (nI j) (nI i) k f n s = (4, (gL g, gn g, gp g, gt g, ga g, (rgN (nwE g (nI j) (nI i) s) (ix (nI i))).1, (rgN (nwE g (nI j) (nI i) s) (ix (nI i))).2)) := by
                          unfold waitsS
                          rw [if_neg (not_not_intro hr0), if_neg (not_not_intro ⟨c_23, hkk, hss⟩), if_pos hex]
                        rw [hS, hnw, hix] at h
                        refine h w4 ((hDA.s hS68).rng hf4 hk4.1 (by rw [hk4.2, hanti.1]) (fun y hy => ?_)) ?_
                        · rw [hr4 y (by rw [← hanti.1]; exact hy)]
                          exact congrArg nI (hanti.2 y hy).symm
                        · refine hmA.tr (hS68.C.tr ⟨hw4, fun r hr => hf4 r (by omega) (by omega)⟩)
                      · have hin : x < n68 := by
                          rcases Nat.lt_or_ge x n68 with q | q
                          · exact q
                          · exact absurd (nI_le q (by omega)) c_91
                        refine a_aload_n hX dX8_waits_94 rfl ?_
                        refine gf_X8_91 rfl hX dX8_waits_95 ?_
                        refine a_iload hX dX8_waits_98 rfl ?_
                        refine a_aload_n hX dX8_waits_100 rfl ?_
                        refine gf_X8_88 rfl hX dX8_waits_101 ?_
                        refine a_iload hX dX8_waits_104 rfl ?_
                        refine a_iald x hX rfl rfl (show x < 12 by omega) dX8_waits_106 ?_
                        rw [hf4 246 (by decide) (by decide), (ht68 x hin).2]
                        refine a_iast x hX rfl rfl (show x < 12 by omega) dX8_waits_107 ?_
                        refine a_iinc (ls' := [_, _, _, _, _, _, _, _, _]) (nI (x + 1)) hX dX8_waits_108 rfl (nI_i1 x) rfl ?_
                        refine a_goto 85 hX dX8_waits_111 (by decide) ?_
                        refine ih (x + 1) _ (by omega) (by omega) hw4 (fun r h1 h2 => by rw [wset_ne _ _ _ _ h2]; exact hf4 r h1 h2) ⟨fun q hq => by rw [wset_ne _ _ _ _ (by decide)]; exact hk4.1 q hq, by rw [wset_ne _ _ _ _ (by decide)]; exact hk4.2⟩ (fun y hy => ?_)
                        rw [wset_1]
                        by_cases e : y = x
                        · rw [if_pos ⟨rfl, e⟩, e]
                        · rw [if_neg (fun z => e z.2)]
                          exact hr4 y (by omega)
                  exact L85 14 0 _ (by omega) (by omega) rfl (fun r h1 h2 => wset_ne _ _ _ _ h1) ⟨fun q hq => by rw [wset_1, if_neg (by omega)], by rw [wset_1, if_pos ⟨rfl, rfl⟩]⟩ (fun y hy => by omega)
              · have hS68 := FrS.rg hf68 hk68
                have hnor : ¬ ∃ x : Nat × (Nat → Nat), ringOf (nwE g (nI j) (nI i) s) (ix (nI i)) x.1 x.2 := by
                  rintro ⟨x, hx⟩
                  rw [hnw, hix] at hx
                  obtain ⟨v', hv3, -⟩ := ring_is hi hth hx
                  exact hno68 _ v' ((hEM _ v').mpr hv3)
                refine a_if_eq_b 116 hX dX8_waits_71 (by decide) (fun c_71 => ?_) (fun c_71 => ?_)
                · refine a_aload_n hX dX8_waits_116 rfl ?_
                  refine a_iconst (2) hX dX8_waits_117 (by decide) ?_
                  refine a_iload_n hX dX8_waits_118 rfl ?_
                  refine a_iload_n hX dX8_waits_119 rfl ?_
                  refine a_iload_n hX dX8_waits_120 rfl ?_
                  refine a_iload hX dX8_waits_121 rfl ?_
                  refine a_iload hX dX8_waits_123 rfl ?_
                  refine a_iload hX dX8_waits_125 rfl ?_
                  refine a_callV [_, _, _, _, _, _, _] hX c_X8_comes mi_X8_comes mv_X8_comes se_X8_comes (klt rfl (by decide)) (adr_lt (kd_lt rfl (by decide))) (cell_8 rfl) rfl li_X8_159 (by decide) rfl rfl (Nat.le_of_ble_eq_true rfl) (fun q => q) dX8_waits_127 ⟨g, _, _, _, _, _, _, _, 0, rfl, (hDA.s hS68), ho, (fun z => absurd z (by decide)), ?_⟩
                  intro wC hDC hmC
                  refine a_iret hX hR dX8_waits_130 ⟨Nat.le_refl _, Nat.le_refl _⟩ rfl ?_
                  exact fin_g8 h (by unfold waitsS; rw [if_neg (not_not_intro hr0), if_neg (not_not_intro ⟨c_23, hkk, hss⟩), if_neg hnor]) hDC ((hmA.tr hS68.C).tr hmC)
                · exact c_71.elim
            · refine a_iconst (3) hX dX8_waits_49 (by decide) ?_
              refine a_iret hX hR dX8_waits_50 ⟨Nat.le_refl _, Nat.le_refl _⟩ rfl ?_
              exact fin_o8 h (by unfold waitsS; rw [if_neg (not_not_intro (room_le.mp c_10)), if_pos (by grind)]) hD3 h3.C
  · refine a_iload hX dX8_waits_13 rfl ?_
    refine a_iret hX hR dX8_waits_15 ⟨Nat.le_refl _, Nat.le_refl _⟩ rfl ?_
    exact fin_o8 h (by unfold waitsS; rw [if_pos (fun z => c_10 (room_le.mpr z))]) hD3 h3.C
abbrev T_X8_take : Tr := fun lay av w Po => ∃ (g : Sg) (t c a b c4 d e f : Int32), av = [.ref (lay 221), .int t, .int c, .int a, .int b, .int c4, .int d, .int e, .int f] ∧ (MD g w) ∧ (okS g) ∧ ∀ w' : St, MD (takeS g t c a b c4 d e f).2 w' → FrC w w' → Po (some (.int (takeS g t c a b c4 d e f).1)) w'
set_option maxRecDepth 100000 in
set_option maxHeartbeats 4000000 in
theorem c_X8_take : Ct yX8_take cX8_take 9 (some .int) 6 0 0 T_X8_take := by
  refine Ct.mk (by decide +kernel) ?_
  intro X av w Po hX hR hT
  obtain ⟨g, t, c, a, b, c4, d, e, f, rfl, hD, ho, h⟩ := hT
  refine ⟨rfl, ?_⟩
  show A X 0 0 0 [some (.ref (xlay X 221)), some (.int t), some (.int c), some (.int a), some (.int b), some (.int c4), some (.int d), some (.int e), some (.int f)] [] w
  refine a_iload_n hX dX8_take_0 rfl ?_
  refine a_if_lt 18 hX dX8_take_1 (by decide) (fun c_1 => ?_) (fun c_1 => ?_)
  · refine a_iconst (-1) hX dX8_take_18 (by decide) ?_
    refine a_iret hX hR dX8_take_19 ⟨Nat.le_refl _, Nat.le_refl _⟩ rfl ?_
    first
    | exact fin_o8 h (show takeS g t c a b c4 d e f = (-1, g) by unfold takeS; rw [if_pos (fun z => absurd z.1 (Int32.not_le.mpr c_1))]) hD FrC.rf
    | exact fin_o8 h (show takeS g t c a b c4 d e f = (-1, g) by unfold takeS; rw [if_pos (fun z => absurd z.2 (Int32.not_le.mpr c_7))]) hD FrC.rf
    | exact fin_o8 h (show takeS g t c a b c4 d e f = (-1, g) by unfold takeS; rw [if_pos c_15]; split <;> rfl) (by rw [todayS_0 c_15] at hD12; exact hD12) hm12
  · refine a_iload_n hX dX8_take_4 rfl ?_
    refine a_bipush (12) hX dX8_take_5 (by decide) ?_
    refine a_icmp_gt 18 hX dX8_take_7 (by decide) (fun c_7 => ?_) (fun c_7 => ?_)
    · refine a_iconst (-1) hX dX8_take_18 (by decide) ?_
      refine a_iret hX hR dX8_take_19 ⟨Nat.le_refl _, Nat.le_refl _⟩ rfl ?_
      first
      | exact fin_o8 h (show takeS g t c a b c4 d e f = (-1, g) by unfold takeS; rw [if_pos (fun z => absurd z.1 (Int32.not_le.mpr c_1))]) hD FrC.rf
      | exact fin_o8 h (show takeS g t c a b c4 d e f = (-1, g) by unfold takeS; rw [if_pos (fun z => absurd z.2 (Int32.not_le.mpr c_7))]) hD FrC.rf
      | exact fin_o8 h (show takeS g t c a b c4 d e f = (-1, g) by unfold takeS; rw [if_pos c_15]; split <;> rfl) (by rw [todayS_0 c_15] at hD12; exact hD12) hm12
    · refine a_aload_n hX dX8_take_10 rfl ?_
      refine a_iload_n hX dX8_take_11 rfl ?_
      refine a_callV [_] hX c_X8_today mi_X8_today mv_X8_today se_X8_today (klt rfl (by decide)) (adr_lt (kd_lt rfl (by decide))) (cell_8 rfl) rfl li_X8_214 (by decide) rfl rfl (Nat.le_of_ble_eq_true rfl) (fun q => q) dX8_take_12 ⟨_, _, rfl, hD, ho, ?_⟩
      intro w12 hD12 hm12
      refine a_if_ne 20 hX dX8_take_15 (by decide) (fun c_15 => ?_) (fun c_15 => ?_)
      · have ho12 := okS_todayS (t := t) ho
        refine a_iload_n hX dX8_take_20 rfl ?_
        have hc0 : 0 ≤ c ∧ c ≤ 12 := ⟨le_nlt c_1, le_nlt c_7⟩
        have hcc : c = 0 ∨ c = 1 ∨ c = 2 ∨ c = 3 ∨ c = 4 ∨ c = 5 ∨ c = 6 ∨ c = 7 ∨ c = 8 ∨ c = 9 ∨ c = 10 ∨ c = 11 ∨ c = 12 := by
          obtain ⟨y, hy, rfl⟩ := le_ex (n := 12) (by decide) hc0
          rcases (show y = 0 ∨ y = 1 ∨ y = 2 ∨ y = 3 ∨ y = 4 ∨ y = 5 ∨ y = 6 ∨ y = 7 ∨ y = 8 ∨ y = 9 ∨ y = 10 ∨ y = 11 ∨ y = 12 by omega) with rfl | rfl | rfl | rfl | rfl | rfl | rfl | rfl | rfl | rfl | rfl | rfl | rfl <;> decide
        rcases hcc with rfl | rfl | rfl | rfl | rfl | rfl | rfl | rfl | rfl | rfl | rfl | rfl | rfl
        · refine a_tableIn (off := 63) 84 hX dX8_take_21 (by decide) (by decide) (by decide) (by decide) ?_
          refine a_aload_n hX dX8_take_84 rfl ?_
          refine a_iload_n hX dX8_take_85 rfl ?_
          refine a_iload hX dX8_take_86 rfl ?_
          refine a_callV [_, _] hX c_X8_letter mi_X8_letter mv_X8_letter se_X8_letter (klt rfl (by decide)) (adr_lt (kd_lt rfl (by decide))) (cell_8 rfl) rfl li_X8_216 (by decide) rfl rfl (Nat.le_of_ble_eq_true rfl) (fun q => q) dX8_take_88 ⟨_, _, _, rfl, hD12, ho12, ?_⟩
          intro wT hcT hmT
          refine a_iret hX hR dX8_take_91 ⟨Nat.le_refl _, Nat.le_refl _⟩ rfl ?_
          exact fin_g8 h (show takeS g t 0 a b c4 d e f = letterS (todayS g t).2 a b by unfold takeS; rw [if_neg (by decide), if_neg c_15, show ix (0 : Int32) = 0 from rfl]; simp [caS]) hcT (hm12.tr hmT)
        · refine a_tableIn (off := 71) 92 hX dX8_take_21 (by decide) (by decide) (by decide) (by decide) ?_
          refine a_aload_n hX dX8_take_92 rfl ?_
          refine a_iload_n hX dX8_take_93 rfl ?_
          refine a_iload hX dX8_take_94 rfl ?_
          refine a_iload hX dX8_take_96 rfl ?_
          refine a_iload hX dX8_take_98 rfl ?_
          refine a_callV [_, _, _, _] hX c_X8_term mi_X8_term mv_X8_term se_X8_term (klt rfl (by decide)) (adr_lt (kd_lt rfl (by decide))) (cell_8 rfl) rfl li_X8_219 (by decide) rfl rfl (Nat.le_of_ble_eq_true rfl) (fun q => q) dX8_take_100 ⟨_, _, _, _, _, rfl, hD12, ho12, ?_⟩
          intro wT hcT hmT
          refine a_iret hX hR dX8_take_103 ⟨Nat.le_refl _, Nat.le_refl _⟩ rfl ?_
          exact fin_g8 h (show takeS g t 1 a b c4 d e f = termS (todayS g t).2 a b c4 d by unfold takeS; rw [if_neg (by decide), if_neg c_15, show ix (1 : Int32) = 1 from rfl]; simp [caS]) hcT (hm12.tr hmT)
        · refine a_tableIn (off := 83) 104 hX dX8_take_21 (by decide) (by decide) (by decide) (by decide) ?_
          refine a_aload_n hX dX8_take_104 rfl ?_
          refine a_iload_n hX dX8_take_105 rfl ?_
          refine a_iload hX dX8_take_106 rfl ?_
          refine a_iload hX dX8_take_108 rfl ?_
          refine a_iload hX dX8_take_110 rfl ?_
          refine a_iload hX dX8_take_112 rfl ?_
          refine a_iload hX dX8_take_114 rfl ?_
          refine a_callV [_, _, _, _, _, _] hX c_X8_waits mi_X8_waits mv_X8_waits se_X8_waits (klt rfl (by decide)) (adr_lt (kd_lt rfl (by decide))) (cell_8 rfl) rfl li_X8_223 (by decide) rfl rfl (Nat.le_of_ble_eq_true rfl) (fun q => q) dX8_take_116 ⟨_, _, _, _, _, _, _, rfl, hD12, ho12, ?_⟩
          intro wT hcT hmT
          refine a_iret hX hR dX8_take_119 ⟨Nat.le_refl _, Nat.le_refl _⟩ rfl ?_
          exact fin_g8 h (show takeS g t 2 a b c4 d e f = waitsS (todayS g t).2 a b c4 d e f by unfold takeS; rw [if_neg (by decide), if_neg c_15, show ix (2 : Int32) = 2 from rfl]; simp [caS]) hcT (hm12.tr hmT)
        · refine a_tableIn (off := 99) 120 hX dX8_take_21 (by decide) (by decide) (by decide) (by decide) ?_
          refine a_aload_n hX dX8_take_120 rfl ?_
          refine a_iload_n hX dX8_take_121 rfl ?_
          refine a_iload hX dX8_take_122 rfl ?_
          refine a_iload hX dX8_take_124 rfl ?_
          refine a_iload hX dX8_take_126 rfl ?_
          refine a_iload hX dX8_take_128 rfl ?_
          refine a_iload hX dX8_take_130 rfl ?_
          refine a_callV [_, _, _, _, _, _] hX c_X8_stay mi_X8_stay mv_X8_stay se_X8_stay (klt rfl (by decide)) (adr_lt (kd_lt rfl (by decide))) (cell_8 rfl) rfl li_X8_227 (by decide) rfl rfl (Nat.le_of_ble_eq_true rfl) (fun q => q) dX8_take_132 ⟨_, _, _, _, _, _, _, rfl, hD12, ho12, ?_⟩
          intro wT hcT hmT
          refine a_iret hX hR dX8_take_135 ⟨Nat.le_refl _, Nat.le_refl _⟩ rfl ?_
          exact fin_g8 h (show takeS g t 3 a b c4 d e f = stayS (todayS g t).2 a b c4 d e f by unfold takeS; rw [if_neg (by decide), if_neg c_15, show ix (3 : Int32) = 3 from rfl]; simp [caS]) hcT (hm12.tr hmT)
        · refine a_tableIn (off := 115) 136 hX dX8_take_21 (by decide) (by decide) (by decide) (by decide) ?_
          refine a_aload_n hX dX8_take_136 rfl ?_
          refine a_iload_n hX dX8_take_137 rfl ?_
          refine a_iload hX dX8_take_138 rfl ?_
          refine a_iload hX dX8_take_140 rfl ?_
          refine a_callV [_, _, _] hX c_X8_quash mi_X8_quash mv_X8_quash se_X8_quash (klt rfl (by decide)) (adr_lt (kd_lt rfl (by decide))) (cell_8 rfl) rfl li_X8_230 (by decide) rfl rfl (Nat.le_of_ble_eq_true rfl) (fun q => q) dX8_take_142 ⟨_, _, _, _, rfl, hD12, ho12, ?_⟩
          intro wT hcT hmT
          refine a_iret hX hR dX8_take_145 ⟨Nat.le_refl _, Nat.le_refl _⟩ rfl ?_
          exact fin_g8 h (show takeS g t 4 a b c4 d e f = quashS (todayS g t).2 a b c4 by unfold takeS; rw [if_neg (by decide), if_neg c_15, show ix (4 : Int32) = 4 from rfl]; simp [caS]) hcT (hm12.tr hmT)
        · refine a_tableIn (off := 125) 146 hX dX8_take_21 (by decide) (by decide) (by decide) (by decide) ?_
          refine a_aload_n hX dX8_take_146 rfl ?_
          refine a_iload_n hX dX8_take_147 rfl ?_
          refine a_iload hX dX8_take_148 rfl ?_
          refine a_iload hX dX8_take_150 rfl ?_
          refine a_if_eq 159 hX dX8_take_152 (by decide) (fun c_152 => ?_) (fun c_152 => ?_)
          · refine a_iconst (0) hX dX8_take_159 (by decide) ?_
            refine a_iload hX dX8_take_160 rfl ?_
            refine a_callV [_, _, _, _] hX c_X8_month mi_X8_month mv_X8_month se_X8_month (klt rfl (by decide)) (adr_lt (kd_lt rfl (by decide))) (cell_8 rfl) rfl li_X8_233 (by decide) rfl rfl (Nat.le_of_ble_eq_true rfl) (fun q => q) dX8_take_162 ⟨_, _, _, _, _, rfl, hD12, ho12, ?_⟩
            intro wT hcT hmT
            refine a_iret hX hR dX8_take_165 ⟨Nat.le_refl _, Nat.le_refl _⟩ rfl ?_
            first
            | exact fin_g8 h (show takeS g t 5 a b c4 d e f = monthS (todayS g t).2 a b 0 d by unfold takeS; rw [if_neg (by decide), if_neg c_15, show ix (5 : Int32) = 5 from rfl]; simp [caS, c_152]) hcT (hm12.tr hmT)
            | exact fin_g8 h (show takeS g t 5 a b c4 d e f = monthS (todayS g t).2 a b 1 d by unfold takeS; rw [if_neg (by decide), if_neg c_15, show ix (5 : Int32) = 5 from rfl]; simp [caS, c_152]) hcT (hm12.tr hmT)
          · refine a_iconst (1) hX dX8_take_155 (by decide) ?_
            refine a_goto 160 hX dX8_take_156 (by decide) ?_
            refine a_iload hX dX8_take_160 rfl ?_
            refine a_callV [_, _, _, _] hX c_X8_month mi_X8_month mv_X8_month se_X8_month (klt rfl (by decide)) (adr_lt (kd_lt rfl (by decide))) (cell_8 rfl) rfl li_X8_233 (by decide) rfl rfl (Nat.le_of_ble_eq_true rfl) (fun q => q) dX8_take_162 ⟨_, _, _, _, _, rfl, hD12, ho12, ?_⟩
            intro wT hcT hmT
            refine a_iret hX hR dX8_take_165 ⟨Nat.le_refl _, Nat.le_refl _⟩ rfl ?_
            first
            | exact fin_g8 h (show takeS g t 5 a b c4 d e f = monthS (todayS g t).2 a b 0 d by unfold takeS; rw [if_neg (by decide), if_neg c_15, show ix (5 : Int32) = 5 from rfl]; simp [caS, c_152]) hcT (hm12.tr hmT)
            | exact fin_g8 h (show takeS g t 5 a b c4 d e f = monthS (todayS g t).2 a b 1 d by unfold takeS; rw [if_neg (by decide), if_neg c_15, show ix (5 : Int32) = 5 from rfl]; simp [caS, c_152]) hcT (hm12.tr hmT)
        · refine a_tableIn (off := 145) 166 hX dX8_take_21 (by decide) (by decide) (by decide) (by decide) ?_
          refine a_aload_n hX dX8_take_166 rfl ?_
          refine a_iload_n hX dX8_take_167 rfl ?_
          refine a_iload hX dX8_take_168 rfl ?_
          refine a_iload hX dX8_take_170 rfl ?_
          refine a_iload hX dX8_take_172 rfl ?_
          refine a_callV [_, _, _, _] hX c_X8_held mi_X8_held mv_X8_held se_X8_held (klt rfl (by decide)) (adr_lt (kd_lt rfl (by decide))) (cell_8 rfl) rfl li_X8_236 (by decide) rfl rfl (Nat.le_of_ble_eq_true rfl) (fun q => q) dX8_take_174 ⟨_, _, _, _, _, rfl, hD12, ho12, ?_⟩
          intro wT hcT hmT
          refine a_iret hX hR dX8_take_177 ⟨Nat.le_refl _, Nat.le_refl _⟩ rfl ?_
          exact fin_g8 h (show takeS g t 6 a b c4 d e f = heldS (todayS g t).2 a b c4 d by unfold takeS; rw [if_neg (by decide), if_neg c_15, show ix (6 : Int32) = 6 from rfl]; simp [caS]) hcT (hm12.tr hmT)
        · refine a_tableIn (off := 157) 178 hX dX8_take_21 (by decide) (by decide) (by decide) (by decide) ?_
          refine a_aload_n hX dX8_take_178 rfl ?_
          refine a_iload_n hX dX8_take_179 rfl ?_
          refine a_iload hX dX8_take_180 rfl ?_
          refine a_callV [_, _] hX c_X8_tear mi_X8_tear mv_X8_tear se_X8_tear (klt rfl (by decide)) (adr_lt (kd_lt rfl (by decide))) (cell_8 rfl) rfl li_X8_239 (by decide) rfl rfl (Nat.le_of_ble_eq_true rfl) (fun q => q) dX8_take_182 ⟨_, _, _, rfl, hD12, ho12, ?_⟩
          intro wT hcT hmT
          refine a_iret hX hR dX8_take_185 ⟨Nat.le_refl _, Nat.le_refl _⟩ rfl ?_
          exact fin_g8 h (show takeS g t 7 a b c4 d e f = tearS (todayS g t).2 a b by unfold takeS; rw [if_neg (by decide), if_neg c_15, show ix (7 : Int32) = 7 from rfl]; simp [caS]) hcT (hm12.tr hmT)
        · refine a_tableIn (off := 165) 186 hX dX8_take_21 (by decide) (by decide) (by decide) (by decide) ?_
          refine a_aload_n hX dX8_take_186 rfl ?_
          refine a_iload_n hX dX8_take_187 rfl ?_
          refine a_iload hX dX8_take_188 rfl ?_
          refine a_iload hX dX8_take_190 rfl ?_
          refine a_iload hX dX8_take_192 rfl ?_
          refine a_callV [_, _, _, _] hX c_X8_copy mi_X8_copy mv_X8_copy se_X8_copy (klt rfl (by decide)) (adr_lt (kd_lt rfl (by decide))) (cell_8 rfl) rfl li_X8_242 (by decide) rfl rfl (Nat.le_of_ble_eq_true rfl) (fun q => q) dX8_take_194 ⟨_, _, _, _, _, rfl, hD12, ho12, ?_⟩
          intro wT hcT hmT
          refine a_iret hX hR dX8_take_197 ⟨Nat.le_refl _, Nat.le_refl _⟩ rfl ?_
          exact fin_g8 h (show takeS g t 8 a b c4 d e f = copyS (todayS g t).2 a b c4 d by unfold takeS; rw [if_neg (by decide), if_neg c_15, show ix (8 : Int32) = 8 from rfl]; simp [caS]) hcT (hm12.tr hmT)
        · refine a_tableIn (off := 177) 198 hX dX8_take_21 (by decide) (by decide) (by decide) (by decide) ?_
          refine a_aload_n hX dX8_take_198 rfl ?_
          refine a_iload_n hX dX8_take_199 rfl ?_
          refine a_iload hX dX8_take_200 rfl ?_
          refine a_iload hX dX8_take_202 rfl ?_
          refine a_iload hX dX8_take_204 rfl ?_
          refine a_callV [_, _, _, _] hX c_X8_off mi_X8_off mv_X8_off se_X8_off (klt rfl (by decide)) (adr_lt (kd_lt rfl (by decide))) (cell_8 rfl) rfl li_X8_245 (by decide) rfl rfl (Nat.le_of_ble_eq_true rfl) (fun q => q) dX8_take_206 ⟨_, _, _, _, _, rfl, hD12, ho12, ?_⟩
          intro wT hcT hmT
          refine a_iret hX hR dX8_take_209 ⟨Nat.le_refl _, Nat.le_refl _⟩ rfl ?_
          exact fin_g8 h (show takeS g t 9 a b c4 d e f = offS (todayS g t).2 a b c4 d by unfold takeS; rw [if_neg (by decide), if_neg c_15, show ix (9 : Int32) = 9 from rfl]; simp [caS]) hcT (hm12.tr hmT)
        · refine a_tableIn (off := 189) 210 hX dX8_take_21 (by decide) (by decide) (by decide) (by decide) ?_
          refine a_aload_n hX dX8_take_210 rfl ?_
          refine a_iload_n hX dX8_take_211 rfl ?_
          refine a_iload hX dX8_take_212 rfl ?_
          refine a_iload hX dX8_take_214 rfl ?_
          refine a_callV [_, _, _] hX c_X8_back mi_X8_back mv_X8_back se_X8_back (klt rfl (by decide)) (adr_lt (kd_lt rfl (by decide))) (cell_8 rfl) rfl li_X8_248 (by decide) rfl rfl (Nat.le_of_ble_eq_true rfl) (fun q => q) dX8_take_216 ⟨_, _, _, _, rfl, hD12, ho12, ?_⟩
          intro wT hcT hmT
          refine a_iret hX hR dX8_take_219 ⟨Nat.le_refl _, Nat.le_refl _⟩ rfl ?_
          exact fin_g8 h (show takeS g t 10 a b c4 d e f = backS (todayS g t).2 a b c4 by unfold takeS; rw [if_neg (by decide), if_neg c_15, show ix (10 : Int32) = 10 from rfl]; simp [caS]) hcT (hm12.tr hmT)
        · refine a_tableIn (off := 199) 220 hX dX8_take_21 (by decide) (by decide) (by decide) (by decide) ?_
          refine a_aload_n hX dX8_take_220 rfl ?_
          refine a_iload_n hX dX8_take_221 rfl ?_
          refine a_iload hX dX8_take_222 rfl ?_
          refine a_callV [_, _] hX c_X8_grant mi_X8_grant mv_X8_grant se_X8_grant (klt rfl (by decide)) (adr_lt (kd_lt rfl (by decide))) (cell_8 rfl) rfl li_X8_251 (by decide) rfl rfl (Nat.le_of_ble_eq_true rfl) (fun q => q) dX8_take_224 ⟨_, _, _, rfl, hD12, ho12, ?_⟩
          intro wT hcT hmT
          refine a_iret hX hR dX8_take_227 ⟨Nat.le_refl _, Nat.le_refl _⟩ rfl ?_
          exact fin_g8 h (show takeS g t 11 a b c4 d e f = grantS (todayS g t).2 a b by unfold takeS; rw [if_neg (by decide), if_neg c_15, show ix (11 : Int32) = 11 from rfl]; simp [caS]) hcT (hm12.tr hmT)
        · refine a_tableOut 228 hX dX8_take_21 (by decide) (by decide) ?_
          refine a_aload_n hX dX8_take_228 rfl ?_
          refine a_iload_n hX dX8_take_229 rfl ?_
          refine a_iload hX dX8_take_230 rfl ?_
          refine a_iload hX dX8_take_232 rfl ?_
          refine a_iload hX dX8_take_234 rfl ?_
          refine a_callV [_, _, _, _] hX c_X8_recall mi_X8_recall mv_X8_recall se_X8_recall (klt rfl (by decide)) (adr_lt (kd_lt rfl (by decide))) (cell_8 rfl) rfl li_X8_253 (by decide) rfl rfl (Nat.le_of_ble_eq_true rfl) (fun q => q) dX8_take_236 ⟨_, _, _, _, _, rfl, hD12, ho12, ?_⟩
          intro wT hcT hmT
          refine a_iret hX hR dX8_take_239 ⟨Nat.le_refl _, Nat.le_refl _⟩ rfl ?_
          exact fin_g8 h (show takeS g t 12 a b c4 d e f = recallS (todayS g t).2 a b c4 d by unfold takeS; rw [if_neg (by decide), if_neg c_15, show ix (12 : Int32) = 12 from rfl]; simp [caS]) hcT (hm12.tr hmT)
      · refine a_iconst (-1) hX dX8_take_18 (by decide) ?_
        refine a_iret hX hR dX8_take_19 ⟨Nat.le_refl _, Nat.le_refl _⟩ rfl ?_
        first
        | exact fin_o8 h (show takeS g t c a b c4 d e f = (-1, g) by unfold takeS; rw [if_pos (fun z => absurd z.1 (Int32.not_le.mpr c_1))]) hD FrC.rf
        | exact fin_o8 h (show takeS g t c a b c4 d e f = (-1, g) by unfold takeS; rw [if_pos (fun z => absurd z.2 (Int32.not_le.mpr c_7))]) hD FrC.rf
        | exact fin_o8 h (show takeS g t c a b c4 d e f = (-1, g) by unfold takeS; rw [if_pos c_15]; split <;> rfl) (by rw [todayS_0 c_15] at hD12; exact hD12) hm12
