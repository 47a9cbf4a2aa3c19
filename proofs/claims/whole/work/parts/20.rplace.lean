/-! Reckoning.reckonPlace -/
theorem nI_100k {x : Nat} (h : bdN x) : nI x = 100000 ↔ x = 100000 := by
  show nI x = nI 100000 ↔ _
  exact nI_eq (by unfold bdN at h; omega) (by decide)
theorem raw_BW {cr st hb : Int32} {PP : Nat → Nat → Int32} {hd : Nat → Bool} {k bg M : Nat} (hc : BW cr (fun d => spB PP 7 k (30 * M + d))) (hs : BW st (fun d => spB PP 6 k (30 * M + d))) (hh : BW hb (fun d => hd (30 * M + d))) (hbg : bg ≤ 100000) (hM : M < 120) : BW ((cr ||| (hb &&& bFrom (nI bg - nI (M * 30)))) &&& (st ^^^ (-1))) (fun d => rawB PP hd k bg (30 * M + d)) := by
  refine ((hc.or (hh.and (bFrom_BW _))).andN hs).to (fun d hd => ?_)
  rw [pk_sub_toInt (by omega) (by omega)]
  unfold rawB
  rw [show decide (((bg : Int) - ((M * 30 : Nat) : Int)) ≤ (d : Int)) = decide (bg ≤ 30 * M + d) by simp only [decide_eq_decide]; omega]
  cases spB PP 6 k (30 * M + d) <;> cases spB PP 7 k (30 * M + d) <;> simp [Bool.and_comm]
theorem tlN_TF0 {PP : Nat → Nat → Int32} {k : Nat} {f : Nat → Int32} {w : Nat → Int32} (hv : vP PP) (hk : k < 12) (hw : w = PP k) (h0 : f 0 = w 6) (h1 : f 1 = w 3 - (w 3 * w 7 + 999) / 1000) (h2 : f 2 = w 8) (h3 : f 3 = 0) (h4 : f 4 = 0) (h5 : f 5 = 0) (is : Nat → Bool) : TF f (ix (PP k 6)) (mtN PP k) (ix (PP k 8)) (tlN PP k is 0) := by
  subst hw
  obtain ⟨-, -, -, ⟨n, hn, en, -⟩, -, -, ⟨ev, hev, eev⟩, ⟨lf, hlf, elf⟩, ⟨gv, hgv, egv⟩, -⟩ := hv k hk
  have hm : n * lf ≤ 3600 * 1000 := Nat.mul_le_mul hn hlf
  have hp : (n * lf + 999) / 1000 ≤ n := by
    have : n * lf ≤ n * 1000 := Nat.mul_le_mul_left n hlf
    omega
  unfold mtN
  rw [eev, egv, en, elf, ix_nI (by omega), ix_nI (by omega), ix_nI (by omega), ix_nI (by omega)]
  refine ⟨⟨h0.trans eev, ?_, h2.trans egv, h3, h4, h5⟩, hev, by omega, hgv, by show 0 ≤ 3600; omega, by show 0 + 0 ≤ 0; omega⟩
  rw [h1, en, elf, pk_mul, show nI (n * lf) + 999 = nI (n * lf + 999) from nI_add _ 999, show nI (n * lf + 999) / 1000 = nI ((n * lf + 999) / 1000) from pk_div (d := 1000) (by omega) (by decide) (by decide), pk_sub hp]
theorem ndN_nI {PP : Nat → Nat → Int32} {k : Nat} (hv : vP PP) (hk : k < 12) (hl : stB PP k = true) : ndN PP k ≤ 100000 ∧ 1 ≤ ndN PP k ∧ (if PP k 0 = 5 then (100000 : Int32) else PP k 3) = nI (ndN PP k) := by
  obtain ⟨-, -, -, ⟨n, hn, en, h1⟩, -⟩ := hv k hk
  have h1 := h1 (stB_runs hl)
  unfold ndN
  rw [en, ix_nI (by omega)]
  split
  · exact ⟨Nat.le_refl _, by omega, rfl⟩
  · exact ⟨by omega, h1, rfl⟩
theorem kd1_208 {q : Nat} (h : kd q = 1) : q + 17 ≤ 210 := (by decide +kernel : ∀ r, r < 248 → kd r = 1 → r + 17 ≤ 210) q (kd_lt h (by decide)) h
/-- the file's part of the state is as it was -/
theorem plF_fr {w w' : St} {q : Nat} {T : Nat → Prop} (hf : Fr w w' T) (hT : ∀ z, T z → 210 ≤ z) (hq : kd q = 1) {i : Nat} (hi : i < 12) : w'.1 (q + 1 + 4 + i) = w.1 (q + 1 + 4 + i) := hf.2 _ (fun h => by have := hT _ h; have := kd1_208 hq; omega)
abbrev T_X3_reckonPlace : Tr := fun lay av w Po => ∃ (q k : Nat) (mo : Int32) (be en : Nat → Nat), av = [.ref (lay 210), .ref (lay q), .ref (lay (q + 1 + 4 + k)), .int (nI k), .int mo] ∧ (kd q = 1) ∧ (k < 12) ∧ (vP (plF w q)) ∧ (stW (w.1 210 6) (plF w q)) ∧ (hdOK w q) ∧ (stB (plF w q) k = true) ∧ (∀ i, i < 12 → depB (plF w q) k i = true → (w.1 211 i = nI (be i) ∧ bdN (be i)) ∧ (w.1 212 i = nI (en i) ∧ bdN (en i))) ∧ ∀ (w' : St) (b e : Nat), Fr w w' (fun z => 211 ≤ z ∧ z ≤ 216) → b = bgN (plF w q) be en k → isEnd (endC (plF w q) (heldF w q mo) k b) e → w'.1 211 = upd (w.1 211) k (nI b) → w'.1 212 = upd (w.1 212) k (nI e) → (∀ j, (j < 120 * k ∨ 120 * k + 120 ≤ j) → w'.1 213 j = w.1 213 j) → (∀ M, M < 120 → BW (w'.1 213 (120 * k + M)) (fun d => rawB (plF w q) (heldF w q mo) k b (30 * M + d) && decide (30 * M + d ≤ e))) → Po none w'
set_option maxRecDepth 100000 in
set_option maxHeartbeats 4000000 in
theorem c_X3_reckonPlace : Ct yX3_reckonPlace cX3_reckonPlace 12 none 4 0 0 T_X3_reckonPlace := by
  refine Ct.mk (by decide +kernel) ?_
  intro X av w Po hX hR hT
  obtain ⟨q, k, mo, be, en, rfl, hq, hk, hv, hst, hok, hli, hbe, h⟩ := hT
  refine ⟨rfl, ?_⟩
  show A X 0 0 0 [some (.ref (xlay X 210)), some (.ref (xlay X q)), some (.ref (xlay X (q + 1 + 4 + k))), some (.int (nI k)), some (.int mo), none, none, none, none, none, none, none] [] w
  obtain ⟨f1, hf1, ef1⟩ := (hv k hk).2.1
  have ef1' : ix (plF w q k 1) = f1 := by rw [ef1]; exact ix_nI (by omega)
  have hbgd : bdN (bgN (plF w q) be en k) := bdN_cut _
  have J35 : ∀ (y : Int32), (y = nI (bgN (plF w q) be en k)) → A X 0 0 35 [some (.ref (xlay X 210)), some (.ref (xlay X q)), some (.ref (xlay X (q + 1 + 4 + k))), some (.int (nI k)), some (.int mo), some (.int y), none, none, none, none, none, none] [] w := by
    intro y hy
    subst hy
    refine a_aload_n hX dX3_reckonPlace_35 rfl ?_
    refine a_bipush (6) hX dX3_reckonPlace_36 (by decide) ?_
    refine a_iload_n hX dX3_reckonPlace_38 rfl ?_
    refine a_aload_n hX dX3_reckonPlace_39 rfl ?_
    refine gf_X3_21 rfl hX dX3_reckonPlace_40 ?_
    refine a_callS [_, _, _, _] hX c_X3_findSpans mi_X3_findSpans ms_X3_findSpans li_X3_76 (by decide) rfl rfl (Nat.le_of_ble_eq_true rfl) (fun q => q) dX3_reckonPlace_43 ⟨_, _, _, _, rfl, hq, rfl, rfl, hk, hv, ?_⟩
    intro w43 h43 hb43
    refine a_aload_n hX dX3_reckonPlace_46 rfl ?_
    refine a_bipush (7) hX dX3_reckonPlace_47 (by decide) ?_
    have hpl43 : ∀ i, i < 12 → w43.1 (q + 1 + 4 + i) = w.1 (q + 1 + 4 + i) := fun i hi => plF_fr h43 (fun z hz => by omega) hq hi
    have hv54 : vP (plF w43 q) := fun i hi => by
      have e9 : plF w43 q i = plF w q i := hpl43 i hi
      have h9 := hv i hi
      unfold runsB at h9 ⊢
      rw [e9]
      exact h9
    refine a_iload_n hX dX3_reckonPlace_49 rfl ?_
    refine a_aload_n hX dX3_reckonPlace_50 rfl ?_
    refine gf_X3_24 rfl hX dX3_reckonPlace_51 ?_
    refine a_callS [_, _, _, _] hX c_X3_findSpans mi_X3_findSpans ms_X3_findSpans li_X3_76 (by decide) rfl rfl (Nat.le_of_ble_eq_true rfl) (fun q => q) dX3_reckonPlace_54 ⟨_, _, _, _, rfl, hq, rfl, rfl, hk, hv54, ?_⟩
    intro w54 h54 hb54
    refine a_aload_n hX dX3_reckonPlace_57 rfl ?_
    refine gf_X3_30 rfl hX dX3_reckonPlace_58 ?_
    refine a_aload_n hX dX3_reckonPlace_61 rfl ?_
    refine a_callV [_] hX c_X6_start mi_X6_start mv_X6_start se_X6_start (klt rfl (by decide)) (adr_lt (kd_lt rfl (by decide))) (cell_6 rfl) rfl li_X3_80 (by decide) rfl rfl (Nat.le_of_ble_eq_true rfl) (fun q => q) dX3_reckonPlace_62 ⟨_, rfl, (K1_p hq hk), ?_⟩
    intro w62 h62
    have hf62 : Fr w w62 (fun z => z = 214 ∨ z = 215 ∨ z = 216) := ((h43.mono (fun z hz => by omega)).tr (h54.mono (fun z hz => by omega))).tr (h62.1.mono (fun z hz => by omega))
    have ep54 : w54.1 (q + 1 + 4 + k) = w.1 (q + 1 + 4 + k) := (plF_fr h54 (fun z hz => by omega) hq hk).trans (hpl43 k hk)
    have ep62 : w62.1 (q + 1 + 4 + k) = w.1 (q + 1 + 4 + k) := plF_fr hf62 (fun z hz => by omega) hq hk
    obtain ⟨hnd1, hnd2, hnd3⟩ := ndN_nI hv hk hli
    have htf0 : TF (w62.1 216) (ix (plF w q k 6)) (mtN (plF w q) k) (ix (plF w q k 8)) (tlN (plF w q) k (rawB (plF w q) (heldF w q mo) k (bgN (plF w q) be en k)) (30 * 0)) := by
      have h9 := h62.2
      rw [ep54] at h9
      exact tlN_TF0 hv hk rfl h9.1 h9.2.1 h9.2.2.1 h9.2.2.2.1 h9.2.2.2.2.1 h9.2.2.2.2.2 _
    have hst62 : ∀ M, M < 120 → BW (w62.1 214 M) (fun d => spB (plF w q) 6 k (30 * M + d)) := fun M hM => by
      rw [h62.1.2 214 (by decide), h54.2 214 (by decide)]
      exact hb43 M hM
    have hspc : ∀ d, spB (plF w43 q) 7 k d = spB (plF w q) 7 k d := fun d => by
      have : ∀ n, n ≤ 12 → spU (plF w43 q) 7 k d n = spU (plF w q) 7 k d n := by
        intro n
        induction n with
        | zero => intro _; rfl
        | succ n ihn =>
          intro hn
          have e9 : plF w43 q n = plF w q n := hpl43 n (by omega)
          simp only [spU]
          rw [ihn (by omega), e9]
      exact this 12 (Nat.le_refl _)
    have hcr62 : ∀ M, M < 120 → BW (w62.1 215 M) (fun d => spB (plF w q) 7 k (30 * M + d)) := fun M hM => by
      rw [h62.1.2 215 (by decide)]
      exact (hb54 M hM).to (fun d hd => hspc _)
    have J82 : ∀ (y : Int32), (y = nI (ndN (plF w q) k)) → A X 0 0 82 [some (.ref (xlay X 210)), some (.ref (xlay X q)), some (.ref (xlay X (q + 1 + 4 + k))), some (.int (nI k)), some (.int mo), some (.int (nI (bgN (plF w q) be en k))), none, none, none, none, none, none] [.int y] w62 := by
      intro y hy2
      refine a_istore (ls' := [_, _, _, _, _, _, _, _, _, _, _, _]) hX dX3_reckonPlace_82 (Nat.le_of_ble_eq_true rfl) rfl ?_
      subst hy2
      refine a_ldc hX dX3_reckonPlace_84 co_X3_42 ?_
      refine a_istore (ls' := [_, _, _, _, _, _, _, _, _, _, _, _]) hX dX3_reckonPlace_86 (Nat.le_of_ble_eq_true rfl) rfl ?_
      refine a_iconst (0) hX dX3_reckonPlace_88 (by decide) ?_
      refine a_istore (ls' := [_, _, _, _, _, _, _, _, _, _, _, _]) hX dX3_reckonPlace_89 (Nat.le_of_ble_eq_true rfl) rfl ?_
      have L91 : ∀ (fu : Nat) (M e : Nat) (w2 : St) (y9 y10 y11 : Option Value), 120 - M < fu → (M ≤ 120) → (Fr w62 w2 (fun z => z = 213 ∨ z = 216)) → (∀ j, (j < 120 * k ∨ 120 * k + 120 ≤ j) → w2.1 213 j = w.1 213 j) → (∀ K, K < M → BW (w2.1 213 (120 * k + K)) (fun d => rawB (plF w q) (heldF w q mo) k (bgN (plF w q) be en k) (30 * K + d) && decide (30 * K + d ≤ e))) → ((e = 100000 ∧ TF (w2.1 216) (ix (plF w q k 6)) (mtN (plF w q) k) (ix (plF w q k 8)) (tlN (plF w q) k (rawB (plF w q) (heldF w q mo) k (bgN (plF w q) be en k)) (30 * M)) ∧ (∀ d, d < 30 * M → ¬ endC (plF w q) (heldF w q mo) k (bgN (plF w q) be en k) d)) ∨ (e < 30 * M ∧ e < 3600 ∧ endC (plF w q) (heldF w q mo) k (bgN (plF w q) be en k) e ∧ (∀ d, d < e → ¬ endC (plF w q) (heldF w q mo) k (bgN (plF w q) be en k) d))) → A X 0 0 91 [some (.ref (xlay X 210)), some (.ref (xlay X q)), some (.ref (xlay X (q + 1 + 4 + k))), some (.int (nI k)), some (.int mo), some (.int (nI (bgN (plF w q) be en k))), some (.int (nI (ndN (plF w q) k))), some (.int (nI e)), some (.int (nI M)), y9, y10, y11] [] w2 := by
        intro fu
        induction fu with
        | zero => intro M e w2 y9 y10 y11 hmu; exact absurd hmu (Nat.not_lt_zero _)
        | succ fu ih =>
          intro M e w2 y9 y10 y11 hmu hM hf2 ho2 hc2 hcs
          refine a_iload hX dX3_reckonPlace_91 rfl ?_
          refine a_bipush (120) hX dX3_reckonPlace_93 (by decide) ?_
          refine a_icmp_ge 211 hX dX3_reckonPlace_95 (by decide) (fun c_95 => ?_) (fun c_95 => ?_)
          · refine a_aload_n hX dX3_reckonPlace_211 rfl ?_
            refine gf_X3_9 rfl hX dX3_reckonPlace_212 ?_
            refine a_iload_n hX dX3_reckonPlace_215 rfl ?_
            refine a_iload hX dX3_reckonPlace_216 rfl ?_
            refine a_iast k hX rfl rfl (show k < 12 from hk) dX3_reckonPlace_218 ?_
            refine a_aload_n hX dX3_reckonPlace_219 rfl ?_
            refine gf_X3_15 rfl hX dX3_reckonPlace_220 ?_
            refine a_iload_n hX dX3_reckonPlace_223 rfl ?_
            refine a_iload hX dX3_reckonPlace_224 rfl ?_
            refine a_iast k hX rfl rfl (show k < 12 from hk) dX3_reckonPlace_226 ?_
            refine a_vret hX hR dX3_reckonPlace_227 ⟨Nat.le_refl _, Nat.le_refl _⟩ ?_
            have hM12 : M = 120 := by
              have := le_of_c (b := 120) c_95 (by omega) (by omega)
              omega
            subst hM12
            have hf3 : Fr w w2 (fun z => 213 ≤ z ∧ z ≤ 216) := (hf62.mono (fun z hz => by omega)).tr (hf2.mono (fun z hz => by omega))
            refine h _ (bgN (plF w q) be en k) e ?_ rfl ?_ ?_ ?_ ?_ ?_
            · exact Fr.set (Fr.set (hf3.mono (fun z hz => by omega)) (by omega)) (by omega)
            · rcases hcs with ⟨he, -, hno⟩ | ⟨he, he2, hec, hno⟩
              · exact Or.inr ⟨he, fun d hd => hno d (by omega)⟩
              · exact Or.inl ⟨he2, hec, hno⟩
            · rw [wset_ne _ _ _ _ (by decide), wset_row, hf3.2 211 (by decide)]
            · rw [wset_row, wset_ne _ _ _ _ (by decide), hf3.2 212 (by decide)]
            · intro j hj
              rw [wset_ne _ _ _ _ (by decide), wset_ne _ _ _ _ (by decide)]
              exact ho2 j hj
            · intro K hK
              rw [wset_ne _ _ _ _ (by decide), wset_ne _ _ _ _ (by decide)]
              exact hc2 K hK
          · have hM12 : M < 120 := lt_of_c (b := 120) c_95 (by omega) (by omega)
            have hdw : ∀ z, z = 213 ∨ z = 216 → 210 ≤ z := fun z hz => by omega
            have e214 : w2.1 214 = w62.1 214 := hf2.2 214 (by decide)
            have e215 : w2.1 215 = w62.1 215 := hf2.2 215 (by decide)
            have hfq : ∀ z, z < 5 → w2.1 (q + z) = w.1 (q + z) := fun z hz => by
              have := kd1_208 hq
              rw [hf2.2 _ (by omega), hf62.2 _ (by omega)]
            have ehd : hdW w2 q M mo = hdW w q M mo := by
              unfold hdW opP rowP
              rw [hfq 2 (by omega), hfq 3 (by omega), hfq 4 (by omega)]
            have hraw := raw_BW (bg := bgN (plF w q) be en k) (hcr62 M hM12) (hst62 M hM12) (hdW_BW (mo := mo) hok hM12) (by unfold bdN at hbgd; omega) hM12
            refine a_iload hX dX3_reckonPlace_98 rfl ?_
            refine a_bipush (30) hX dX3_reckonPlace_100 (by decide) ?_
            refine a_imul hX dX3_reckonPlace_102 ?_
            rw [show nI M * 30 = nI (M * 30) from pk_mul M 30]
            refine a_istore (ls' := [_, _, _, _, _, _, _, _, _, _, _, _]) hX dX3_reckonPlace_103 (Nat.le_of_ble_eq_true rfl) rfl ?_
            refine a_aload_n hX dX3_reckonPlace_105 rfl ?_
            refine gf_X3_24 rfl hX dX3_reckonPlace_106 ?_
            refine a_iload hX dX3_reckonPlace_109 rfl ?_
            refine a_iald (M) hX rfl rfl (show _ < 120 by omega) dX3_reckonPlace_111 ?_
            refine a_aload_n hX dX3_reckonPlace_112 rfl ?_
            refine a_iload hX dX3_reckonPlace_113 rfl ?_
            refine a_iload hX dX3_reckonPlace_115 rfl ?_
            refine a_callV [_, _] hX c_X1_heldDays mi_X1_heldDays mv_X1_heldDays se_X1_heldDays (klt hq (by decide)) (adr_lt (kd_lt hq (by decide))) (cell_1 hq) rfl li_X3_87 (by decide) rfl rfl (Nat.le_of_ble_eq_true rfl) (fun q => q) dX3_reckonPlace_117 ⟨_, _, _, rfl, hq, hM12, ?_⟩
            refine a_iload hX dX3_reckonPlace_120 rfl ?_
            refine a_iload hX dX3_reckonPlace_122 rfl ?_
            refine a_isub hX dX3_reckonPlace_124 ?_
            refine a_callSN [_] hX c_X7_bitsFrom mi_X7_bitsFrom ms_X7_bitsFrom ln_X3_91 (by decide) rfl rfl (Nat.le_of_ble_eq_true rfl) (fun q => q) dX3_reckonPlace_125 ⟨_, rfl, ?_⟩
            refine a_iand hX dX3_reckonPlace_128 ?_
            refine a_ior hX dX3_reckonPlace_129 ?_
            refine a_aload_n hX dX3_reckonPlace_130 rfl ?_
            refine gf_X3_21 rfl hX dX3_reckonPlace_131 ?_
            refine a_iload hX dX3_reckonPlace_134 rfl ?_
            refine a_iald (M) hX rfl rfl (show _ < 120 by omega) dX3_reckonPlace_136 ?_
            refine a_iconst (-1) hX dX3_reckonPlace_137 (by decide) ?_
            refine a_ixor hX dX3_reckonPlace_138 ?_
            refine a_iand hX dX3_reckonPlace_139 ?_
            rw [e215, ehd, e214]
            refine a_istore (ls' := [_, _, _, _, _, _, _, _, _, _, _, _]) hX dX3_reckonPlace_140 (Nat.le_of_ble_eq_true rfl) rfl ?_
            rcases hcs with ⟨he, htf, hno⟩ | ⟨he, he2, hec, hno⟩
            · subst he
              refine a_iload hX dX3_reckonPlace_142 rfl ?_
              refine a_ldc hX dX3_reckonPlace_144 co_X3_42 ?_
              refine a_icmp_eq 155 hX dX3_reckonPlace_146 (by decide) (fun c_146 => ?_) (fun c_146 => ?_)
              · refine a_aload_n hX dX3_reckonPlace_155 rfl ?_
                refine gf_X3_30 rfl hX dX3_reckonPlace_156 ?_
                refine a_iload hX dX3_reckonPlace_159 rfl ?_
                refine a_iload hX dX3_reckonPlace_161 rfl ?_
                have hcnt := runT_cnt_le (ev := ix (plF w q k 6)) (is := rawB (plF w q) (heldF w q mo) k (bgN (plF w q) be en k)) (s0 := (0, 0, 0)) (30 * M)
                have hlc : (tlN (plF w q) k (rawB (plF w q) (heldF w q mo) k (bgN (plF w q) be en k)) (30 * M)).1 + 30 ≤ 3600 := by
                  unfold tlN
                  simp only at hcnt
                  omega
                have hrc : rcN (ix (plF w q k 6)) (mtN (plF w q) k) (ix (plF w q k 8)) (tlN (plF w q) k (rawB (plF w q) (heldF w q mo) k (bgN (plF w q) be en k)) (30 * M)) < ndN (plF w q) k := by
                  by_cases h0 : M = 0
                  · subst h0
                    have : rcN (ix (plF w q k 6)) (mtN (plF w q) k) (ix (plF w q k 8)) (0, 0, 0) = 0 := by
                      unfold rcN tkN
                      simp
                    exact Nat.lt_of_le_of_lt (Nat.le_of_eq this) hnd2
                  · have h9 := hno (30 * M - 1) (by omega)
                    unfold endC at h9
                    rw [show 30 * M - 1 + 1 = 30 * M by omega] at h9
                    omega
                refine a_callV [_, _] hX c_X6_addMonth mi_X6_addMonth mv_X6_addMonth se_X6_addMonth (klt rfl (by decide)) (adr_lt (kd_lt rfl (by decide))) (cell_6 rfl) rfl li_X3_95 (by decide) rfl rfl (Nat.le_of_ble_eq_true rfl) (fun q => q) dX3_reckonPlace_163 ⟨_, _, _, _, _, _, _, rfl, htf, hraw, hlc, (by omega), hrc, ?_⟩
                intro w163 res hF163 ham
                have hst : ∀ j, tlN (plF w q) k (rawB (plF w q) (heldF w q mo) k (bgN (plF w q) be en k)) (30 * M + j) = runT (ix (plF w q k 6)) (fun d => rawB (plF w q) (heldF w q mo) k (bgN (plF w q) be en k) (30 * M + d)) (tlN (plF w q) k (rawB (plF w q) (heldF w q mo) k (bgN (plF w q) be en k)) (30 * M)) j := fun j => runT_add _ _ _ _ _
                have hendj : ∀ j, endC (plF w q) (heldF w q mo) k (bgN (plF w q) be en k) (30 * M + j) ↔ ndN (plF w q) k ≤ rcN (ix (plF w q k 6)) (mtN (plF w q) k) (ix (plF w q k 8)) (runT (ix (plF w q k 6)) (fun d => rawB (plF w q) (heldF w q mo) k (bgN (plF w q) be en k) (30 * M + d)) (tlN (plF w q) k (rawB (plF w q) (heldF w q mo) k (bgN (plF w q) be en k)) (30 * M)) (j + 1)) := fun j => by
                  rw [← hst]
                  rfl
                rcases ham with ⟨hr, htf2, hno2⟩ | ⟨kk, hkk, hr, htf2, hge, hno2⟩
                · subst hr
                  refine a_istore (ls' := [_, _, _, _, _, _, _, _, _, _, _, _]) hX dX3_reckonPlace_166 (Nat.le_of_ble_eq_true rfl) rfl ?_
                  refine a_iload hX dX3_reckonPlace_168 rfl ?_
                  refine a_iconst (-1) hX dX3_reckonPlace_170 (by decide) ?_
                  refine a_icmp_eq 191 hX dX3_reckonPlace_171 (by decide) (fun c_171 => ?_) (fun c_171 => ?_)
                  · refine a_aload_n hX dX3_reckonPlace_191 rfl ?_
                    refine gf_X3_18 rfl hX dX3_reckonPlace_192 ?_
                    refine a_iload_n hX dX3_reckonPlace_195 rfl ?_
                    refine a_bipush (120) hX dX3_reckonPlace_196 (by decide) ?_
                    refine a_imul hX dX3_reckonPlace_198 ?_
                    refine a_iload hX dX3_reckonPlace_199 rfl ?_
                    refine a_iadd hX dX3_reckonPlace_201 ?_
                    refine a_iload hX dX3_reckonPlace_202 rfl ?_
                    refine a_iast (120 * k + M) hX rfl (show nI k * 120 + nI M = nI (120 * k + M) from by rw [show nI k * 120 = nI (k * 120) from pk_mul k 120, nI_add, Nat.mul_comm]) (show _ < 1440 by omega) dX3_reckonPlace_204 ?_
                    refine a_iinc (ls' := [_, _, _, _, _, _, _, _, _, _, _, _]) (nI (M + 1)) hX dX3_reckonPlace_205 rfl (nI_i1 M) rfl ?_
                    refine a_goto 91 hX dX3_reckonPlace_208 (by decide) ?_
                    refine ih (M + 1) 100000 _ _ _ _ (by omega) (by omega) (Fr.set (hf2.tr (hF163.mono (fun z hz => Or.inr hz))) (Or.inl rfl)) (fun j hj => ?_) (fun K hK => ?_) ?_
                    · rw [wset_1, if_neg (by omega), hF163.2 213 (by decide)]
                      exact ho2 j hj
                    · rw [wset_1]
                      by_cases e9 : K = M
                      · subst e9
                        rw [if_pos ⟨rfl, rfl⟩]
                        refine hraw.to (fun d hd => ?_)
                        rw [show decide (30 * K + d ≤ 100000) = true by simp; omega, Bool.and_true]
                      · rw [if_neg (by omega), hF163.2 213 (by decide)]
                        exact hc2 K (by omega)
                    · refine Or.inl ⟨rfl, ?_, fun d hd => ?_⟩
                      · rw [wset_ne _ _ _ _ (by decide), show 30 * (M + 1) = 30 * M + 30 by omega, hst]
                        exact htf2
                      · by_cases h9 : d < 30 * M
                        · exact hno d h9
                        · obtain ⟨j, rfl⟩ : ∃ j, d = 30 * M + j := ⟨d - 30 * M, by omega⟩
                          rw [hendj]
                          have := hno2 j (by omega)
                          omega
                  · exact absurd rfl c_171
                · subst hr
                  refine a_istore (ls' := [_, _, _, _, _, _, _, _, _, _, _, _]) hX dX3_reckonPlace_166 (Nat.le_of_ble_eq_true rfl) rfl ?_
                  refine a_iload hX dX3_reckonPlace_168 rfl ?_
                  refine a_iconst (-1) hX dX3_reckonPlace_170 (by decide) ?_
                  refine a_icmp_eq 191 hX dX3_reckonPlace_171 (by decide) (fun c_171 => ?_) (fun c_171 => ?_)
                  · exact absurd (congrArg Int32.toInt c_171) (by
                      rw [nI_toInt (by omega)]
                      show ¬ ((kk : Int) = -1)
                      omega)
                  · refine a_iload hX dX3_reckonPlace_174 rfl ?_
                    refine a_iload hX dX3_reckonPlace_176 rfl ?_
                    refine a_iadd hX dX3_reckonPlace_178 ?_
                    rw [nI_add]
                    refine a_istore (ls' := [_, _, _, _, _, _, _, _, _, _, _, _]) hX dX3_reckonPlace_179 (Nat.le_of_ble_eq_true rfl) rfl ?_
                    refine a_iload hX dX3_reckonPlace_181 rfl ?_
                    refine a_iload hX dX3_reckonPlace_183 rfl ?_
                    refine a_callSN [_] hX c_X7_bitsUpTo mi_X7_bitsUpTo ms_X7_bitsUpTo ln_X3_99 (by decide) rfl rfl (Nat.le_of_ble_eq_true rfl) (fun q => q) dX3_reckonPlace_185 ⟨_, rfl, ?_⟩
                    refine a_iand hX dX3_reckonPlace_188 ?_
                    refine a_istore (ls' := [_, _, _, _, _, _, _, _, _, _, _, _]) hX dX3_reckonPlace_189 (Nat.le_of_ble_eq_true rfl) rfl ?_
                    refine a_aload_n hX dX3_reckonPlace_191 rfl ?_
                    refine gf_X3_18 rfl hX dX3_reckonPlace_192 ?_
                    refine a_iload_n hX dX3_reckonPlace_195 rfl ?_
                    refine a_bipush (120) hX dX3_reckonPlace_196 (by decide) ?_
                    refine a_imul hX dX3_reckonPlace_198 ?_
                    refine a_iload hX dX3_reckonPlace_199 rfl ?_
                    refine a_iadd hX dX3_reckonPlace_201 ?_
                    refine a_iload hX dX3_reckonPlace_202 rfl ?_
                    refine a_iast (120 * k + M) hX rfl (show nI k * 120 + nI M = nI (120 * k + M) from by rw [show nI k * 120 = nI (k * 120) from pk_mul k 120, nI_add, Nat.mul_comm]) (show _ < 1440 by omega) dX3_reckonPlace_204 ?_
                    refine a_iinc (ls' := [_, _, _, _, _, _, _, _, _, _, _, _]) (nI (M + 1)) hX dX3_reckonPlace_205 rfl (nI_i1 M) rfl ?_
                    refine a_goto 91 hX dX3_reckonPlace_208 (by decide) ?_
                    refine ih (M + 1) (M * 30 + kk) _ _ _ _ (by omega) (by omega) (Fr.set (hf2.tr (hF163.mono (fun z hz => Or.inr hz))) (Or.inl rfl)) (fun j hj => ?_) (fun K hK => ?_) ?_
                    · rw [wset_1, if_neg (by omega), hF163.2 213 (by decide)]
                      exact ho2 j hj
                    · rw [wset_1]
                      by_cases e9 : K = M
                      · subst e9
                        rw [if_pos ⟨rfl, rfl⟩]
                        refine (hraw.and (bUpTo_BW _)).to (fun d hd => ?_)
                        rw [nI_toInt (by omega)]
                        congr 1
                        simp only [decide_eq_decide]
                        omega
                      · rw [if_neg (by omega), hF163.2 213 (by decide)]
                        refine (hc2 K (by omega)).to (fun d hd => ?_)
                        rw [show decide (30 * K + d ≤ 100000) = decide (30 * K + d ≤ M * 30 + kk) by simp only [decide_eq_decide]; omega]
                    · refine Or.inr ⟨by omega, by omega, ?_, fun d hd => ?_⟩
                      · rw [show M * 30 + kk = 30 * M + kk by omega, hendj]
                        exact hge
                      · by_cases h9 : d < 30 * M
                        · exact hno d h9
                        · obtain ⟨j, rfl⟩ : ∃ j, d = 30 * M + j := ⟨d - 30 * M, by omega⟩
                          rw [hendj]
                          have := hno2 j (by omega)
                          omega
              · exact absurd rfl c_146
            · refine a_iload hX dX3_reckonPlace_142 rfl ?_
              refine a_ldc hX dX3_reckonPlace_144 co_X3_42 ?_
              refine a_icmp_eq 155 hX dX3_reckonPlace_146 (by decide) (fun c_146 => ?_) (fun c_146 => ?_)
              · exact absurd ((nI_100k (Or.inl he2)).mp c_146) (by omega)
              · refine a_iconst (0) hX dX3_reckonPlace_149 (by decide) ?_
                refine a_istore (ls' := [_, _, _, _, _, _, _, _, _, _, _, _]) hX dX3_reckonPlace_150 (Nat.le_of_ble_eq_true rfl) rfl ?_
                refine a_goto 191 hX dX3_reckonPlace_152 (by decide) ?_
                refine a_aload_n hX dX3_reckonPlace_191 rfl ?_
                refine gf_X3_18 rfl hX dX3_reckonPlace_192 ?_
                refine a_iload_n hX dX3_reckonPlace_195 rfl ?_
                refine a_bipush (120) hX dX3_reckonPlace_196 (by decide) ?_
                refine a_imul hX dX3_reckonPlace_198 ?_
                refine a_iload hX dX3_reckonPlace_199 rfl ?_
                refine a_iadd hX dX3_reckonPlace_201 ?_
                refine a_iload hX dX3_reckonPlace_202 rfl ?_
                refine a_iast (120 * k + M) hX rfl (show nI k * 120 + nI M = nI (120 * k + M) from by rw [show nI k * 120 = nI (k * 120) from pk_mul k 120, nI_add, Nat.mul_comm]) (show _ < 1440 by omega) dX3_reckonPlace_204 ?_
                refine a_iinc (ls' := [_, _, _, _, _, _, _, _, _, _, _, _]) (nI (M + 1)) hX dX3_reckonPlace_205 rfl (nI_i1 M) rfl ?_
                refine a_goto 91 hX dX3_reckonPlace_208 (by decide) ?_
                refine ih (M + 1) e _ _ _ _ (by omega) (by omega) (Fr.set hf2 (Or.inl rfl)) (fun j hj => ?_) (fun K hK => ?_) ?_
                · rw [wset_1, if_neg (by omega)]
                  exact ho2 j hj
                · rw [wset_1]
                  by_cases e9 : K = M
                  · subst e9
                    rw [if_pos ⟨rfl, rfl⟩]
                    refine BW.zero (fun d hd => ?_)
                    rw [show decide (30 * K + d ≤ e) = false by simp; omega, Bool.and_false]
                  · rw [if_neg (by omega)]
                    exact hc2 K (by omega)
                · exact Or.inr ⟨by omega, he2, hec, hno⟩
      exact L91 121 0 100000 w62 none none none (by omega) (by omega) Fr.rf (fun j hj => by rw [hf62.2 213 (by decide)]) (fun K hK => by omega) (Or.inl ⟨rfl, htf0, fun d hd => by omega⟩)
    refine a_aload_n hX dX3_reckonPlace_65 rfl ?_
    refine gf_X3_66 (K1_p hq hk) hX dX3_reckonPlace_66 ?_
    refine a_iconst (5) hX dX3_reckonPlace_69 (by decide) ?_
    refine a_icmp_ne 78 hX dX3_reckonPlace_70 (by decide) (fun c_70 => ?_) (fun c_70 => ?_)
    · refine a_aload_n hX dX3_reckonPlace_78 rfl ?_
      refine gf_X3_84 (K1_p hq hk) hX dX3_reckonPlace_79 ?_
      refine J82 _ ?_
      have c9 : ¬ plF w q k 0 = 5 := fun z => c_70 (by rw [ep62]; exact z)
      rw [if_neg c9] at hnd3
      rw [ep62]
      exact hnd3
    · refine a_ldc hX dX3_reckonPlace_73 co_X3_42 ?_
      refine a_goto 82 hX dX3_reckonPlace_75 (by decide) ?_
      refine J82 _ ?_
      have c9 : plF w q k 0 = 5 := by
        have h9 : w62.1 (q + 1 + 4 + k) 0 = 5 := c_70
        rw [ep62] at h9
        exact h9
      rw [if_pos c9] at hnd3
      exact hnd3
  have J21 : ∀ (z : Nat), (cutN z = bgN (plF w q) be en k) → (z < 300000) → A X 0 0 21 [some (.ref (xlay X 210)), some (.ref (xlay X q)), some (.ref (xlay X (q + 1 + 4 + k))), some (.int (nI k)), some (.int mo), none, none, none, none, none, none, none] [.int (nI z)] w := by
    intro z hz hzb
    refine a_istore (ls' := [_, _, _, _, _, _, _, _, _, _, _, _]) hX dX3_reckonPlace_21 (Nat.le_of_ble_eq_true rfl) rfl ?_
    refine a_iload hX dX3_reckonPlace_23 rfl ?_
    refine a_sipush (3600) hX dX3_reckonPlace_25 (by decide) ?_
    refine a_icmp_lt 35 hX dX3_reckonPlace_28 (by decide) (fun c_28 => ?_) (fun c_28 => ?_)
    · refine J35 _ ?_
      have hlt : z < 3600 := (nI_ltI (b := 3600) (by omega) (by decide)).mp c_28
      rw [← hz]
      unfold cutN
      rw [if_pos hlt]
    · refine a_ldc hX dX3_reckonPlace_31 co_X3_42 ?_
      refine a_istore (ls' := [_, _, _, _, _, _, _, _, _, _, _, _]) hX dX3_reckonPlace_33 (Nat.le_of_ble_eq_true rfl) rfl ?_
      refine J35 _ ?_
      have hlt : ¬ z < 3600 := fun q => c_28 ((nI_ltI (b := 3600) (by omega) (by decide)).mpr q)
      rw [← hz]
      unfold cutN
      rw [if_neg hlt]
      rfl
  refine a_aload_n hX dX3_reckonPlace_0 rfl ?_
  refine gf_X3_66 (K1_p hq hk) hX dX3_reckonPlace_1 ?_
  refine a_iconst (4) hX dX3_reckonPlace_4 (by decide) ?_
  refine a_icmp_ne 16 hX dX3_reckonPlace_5 (by decide) (fun c_5 => ?_) (fun c_5 => ?_)
  · refine a_aload_n hX dX3_reckonPlace_16 rfl ?_
    refine a_aload_n hX dX3_reckonPlace_17 rfl ?_
    refine a_callV [_] hX c_X3_beginBehind mi_X3_beginBehind mv_X3_beginBehind se_X3_beginBehind (klt rfl (by decide)) (adr_lt (kd_lt rfl (by decide))) (cell_3 rfl) rfl li_X3_73 (by decide) rfl rfl (Nat.le_of_ble_eq_true rfl) (fun q => q) dX3_reckonPlace_18 ⟨_, _, _, rfl, hq, hk, hv, hst, (fun i hi hd => (hbe i hi hd).2), ?_⟩
    refine J21 _ ?_ ?_
    · show cutN _ = bgN _ _ _ _
      unfold bgN
      have hk4 : ¬ plF w q k 0 = 4 := c_5
      rw [if_neg hk4]
    · exact Nat.lt_of_le_of_lt (maxF_le (B := 200000) (by omega) (fun j hj hp => by
        have := (hbe j (by omega) hp).2.2
        unfold bdN at this
        omega)) (by decide)
  · refine a_aload_n hX dX3_reckonPlace_8 rfl ?_
    refine a_aload_n hX dX3_reckonPlace_9 rfl ?_
    refine a_callV [_] hX c_X3_beginBeside mi_X3_beginBeside mv_X3_beginBeside se_X3_beginBeside (klt rfl (by decide)) (adr_lt (kd_lt rfl (by decide))) (cell_3 rfl) rfl li_X3_69 (by decide) rfl rfl (Nat.le_of_ble_eq_true rfl) (fun q => q) dX3_reckonPlace_10 ⟨_, _, _, rfl, hq, hk, hv, hst, (fun i hi hd => (hbe i hi hd).1), ?_⟩
    refine a_goto 21 hX dX3_reckonPlace_13 (by decide) ?_
    refine J21 _ ?_ ?_
    · show cutN _ = bgN _ _ _ _
      unfold bgN
      have hk4 : plF w q k 0 = 4 := c_5
      rw [if_pos hk4]
    · rw [ef1']
      have := minF_le (p := depB (plF w q) k) (f := be) (x := 100000) (n := 12)
      split <;> omega
