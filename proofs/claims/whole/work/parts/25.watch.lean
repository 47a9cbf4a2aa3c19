/-! Reckoning: watched -/
theorem bit_nI {x : Int32} {b : Nat → Bool} (h : BW x b) {k : Nat} (hk : k < 30) : (x >>> (nI k &&& 31)) &&& 1 = nI (if b k then 1 else 0) := by
  apply b_ext
  intro i hi
  rw [b_and, bt_1]
  by_cases hi0 : i = 0
  · subst hi0
    rw [bt_sh (by omega), h.at hk]
    cases b k <;> rfl
  · simp only [hi0, decide_false, Bool.and_false]
    cases b k
    · exact (b_0 i).symm
    · show false = bt 1 i
      rw [bt_1]
      simp [hi0]
abbrev T_X3_dayOfBit : Tr := fun lay av w Po => ∃ (x : Int32) (n : Nat) (b : Nat → Bool), av = [.int x, .int (nI n)] ∧ (BW x b) ∧ (1 ≤ n) ∧ (n ≤ fb_ct b 30) ∧ ∀ j, j < 30 → b j = true → fb_ct b (j + 1) = n → Po (some (.int (nI j))) w
set_option maxRecDepth 100000 in
set_option maxHeartbeats 4000000 in
theorem c_X3_dayOfBit : Ct yX3_dayOfBit cX3_dayOfBit 4 (some .int) 0 0 0 T_X3_dayOfBit := by
  refine Ct.mk (by decide +kernel) ?_
  intro X av w Po hX hR hT
  obtain ⟨x, n, b, rfl, hb, h1, h2, h⟩ := hT
  refine ⟨rfl, ?_⟩
  show A X 0 0 0 [some (.int x), some (.int (nI n)), none, none] [] w
  refine a_iconst (0) hX dX3_dayOfBit_0 (by decide) ?_
  refine a_istore_n (ls' := [_, _, _, _]) hX dX3_dayOfBit_1 (Nat.le_of_ble_eq_true rfl) rfl ?_
  refine a_iconst (0) hX dX3_dayOfBit_2 (by decide) ?_
  refine a_istore_n (ls' := [_, _, _, _]) hX dX3_dayOfBit_3 (Nat.le_of_ble_eq_true rfl) rfl ?_
  have L4 : ∀ (fu : Nat) (k : Nat), 30 - k < fu → (k ≤ 30) → (fb_ct b k < n) → A X 0 0 4 [some (.int x), some (.int (nI n)), some (.int (nI (fb_ct b k))), some (.int (nI k))] [] w := by
    intro fu
    induction fu with
    | zero => intro k hmu; exact absurd hmu (Nat.not_lt_zero _)
    | succ fu ih =>
      intro k hmu hk hc
      refine a_iload_n hX dX3_dayOfBit_4 rfl ?_
      refine a_bipush (30) hX dX3_dayOfBit_5 (by decide) ?_
      refine a_icmp_ge 31 hX dX3_dayOfBit_7 (by decide) (fun c_7 => ?_) (fun c_7 => ?_)
      · refine a_bipush (30) hX dX3_dayOfBit_31 (by decide) ?_
        refine a_iret hX hR dX3_dayOfBit_33 ⟨Nat.le_refl _, Nat.le_refl _⟩ rfl ?_
        have hk30 : k = 30 := by
          have := le_of_c (b := 30) c_7 (by omega) (by omega)
          omega
        subst hk30
        omega
      · have hk30 : k < 30 := lt_of_c (b := 30) c_7 (by omega) (by omega)
        have hle := fb_ct_le b 30
        have hle2 := fb_ct_le b k
        have hsu := fb_ct_succ b k
        refine a_iload_n hX dX3_dayOfBit_10 rfl ?_
        refine a_iload_n hX dX3_dayOfBit_11 rfl ?_
        refine a_iload_n hX dX3_dayOfBit_12 rfl ?_
        refine a_ishr hX dX3_dayOfBit_13 ?_
        refine a_iconst (1) hX dX3_dayOfBit_14 (by decide) ?_
        refine a_iand hX dX3_dayOfBit_15 ?_
        rw [bit_nI hb hk30]
        refine a_iadd hX dX3_dayOfBit_16 ?_
        rw [nI_add, show nI (fb_ct b k + (if b k then 1 else 0)) = nI (fb_ct b (k + 1)) from rfl]
        refine a_istore_n (ls' := [_, _, _, _]) hX dX3_dayOfBit_17 (Nat.le_of_ble_eq_true rfl) rfl ?_
        refine a_iload_n hX dX3_dayOfBit_18 rfl ?_
        refine a_iload_n hX dX3_dayOfBit_19 rfl ?_
        refine a_icmp_ne 25 hX dX3_dayOfBit_20 (by decide) (fun c_20 => ?_) (fun c_20 => ?_)
        · have hne : fb_ct b (k + 1) ≠ n := fun z => c_20 (by rw [z])
          have hlt : fb_ct b (k + 1) < n := by split at hsu <;> omega
          refine a_iinc (ls' := [_, _, _, _]) (nI (k + 1)) hX dX3_dayOfBit_25 rfl (nI_i1 k) rfl ?_
          refine a_goto 4 hX dX3_dayOfBit_28 (by decide) ?_
          exact ih (k + 1) (by omega) (by omega) (by omega)
        · have he := (nI_eq (by split at hsu <;> omega) (by omega)).mp c_20
          have hbk : b k = true := by
            cases hz : b k
            · rw [hz] at hsu
              simp at hsu
              omega
            · rfl
          refine a_iload_n hX dX3_dayOfBit_23 rfl ?_
          refine a_iret hX hR dX3_dayOfBit_24 ⟨Nat.le_refl _, Nat.le_refl _⟩ rfl ?_
          exact h k hk30 hbk he
  exact L4 31 0 (by omega) (by omega) (by show 0 < n; omega)
abbrev T_X3_dayOfCount : Tr := fun lay av w Po => ∃ (k wn : Nat) (PP : Nat → Nat → Int32) (hd : Nat → Bool) (be en : Nat → Nat), av = [.ref (lay 210), .int (nI k), .int (nI wn)] ∧ (k < 12) ∧ (stB PP k = true) ∧ (RkS w PP hd be en) ∧ (wn ≤ 3600) ∧ ∀ e : Nat, isEnd (fun d => wn ≤ fb_ct (ctB PP hd be en k) (d + 1)) e → Po (some (.int (nI e))) w
set_option maxRecDepth 100000 in
set_option maxHeartbeats 4000000 in
theorem c_X3_dayOfCount : Ct yX3_dayOfCount cX3_dayOfCount 7 (some .int) 2 0 0 T_X3_dayOfCount := by
  refine Ct.mk (by decide +kernel) ?_
  intro X av w Po hX hR hT
  obtain ⟨k, wn, PP, hd, be, en, rfl, hk, hs, hRk, hwn, h⟩ := hT
  refine ⟨rfl, ?_⟩
  show A X 0 0 0 [some (.ref (xlay X 210)), some (.int (nI k)), some (.int (nI wn)), none, none, none, none] [] w
  refine a_iload_n hX dX3_dayOfCount_0 rfl ?_
  refine a_istore_n (ls' := [_, _, _, _, _, _, _]) hX dX3_dayOfCount_1 (Nat.le_of_ble_eq_true rfl) rfl ?_
  refine a_iload_n hX dX3_dayOfCount_2 rfl ?_
  refine a_if_gt 8 hX dX3_dayOfCount_3 (by decide) (fun c_3 => ?_) (fun c_3 => ?_)
  · have hw0 : 0 < wn := (nI_ltI (a := 0) (by decide) (by omega)).mp c_3
    refine a_iconst (0) hX dX3_dayOfCount_8 (by decide) ?_
    refine a_istore (ls' := [_, _, _, _, _, _, _]) hX dX3_dayOfCount_9 (Nat.le_of_ble_eq_true rfl) rfl ?_
    have L11 : ∀ (fu : Nat) (M : Nat) (y5 y6 : Option Value), 120 - M < fu → (M ≤ 120) → (fb_ct (ctB PP hd be en k) (30 * M) < wn) → A X 0 0 11 [some (.ref (xlay X 210)), some (.int (nI k)), some (.int (nI wn)), some (.int (nI (wn - fb_ct (ctB PP hd be en k) (30 * M)))), some (.int (nI M)), y5, y6] [] w := by
      intro fu
      induction fu with
      | zero => intro M y5 y6 hmu; exact absurd hmu (Nat.not_lt_zero _)
      | succ fu ih =>
        intro M y5 y6 hmu hM hc
        refine a_iload hX dX3_dayOfCount_11 rfl ?_
        refine a_bipush (120) hX dX3_dayOfCount_13 (by decide) ?_
        refine a_icmp_ge 64 hX dX3_dayOfCount_15 (by decide) (fun c_15 => ?_) (fun c_15 => ?_)
        · refine a_ldc hX dX3_dayOfCount_64 co_X3_42 ?_
          refine a_iret hX hR dX3_dayOfCount_66 ⟨Nat.le_refl _, Nat.le_refl _⟩ rfl ?_
          have hM12 : M = 120 := by
            have := le_of_c (b := 120) c_15 (by omega) (by omega)
            omega
          subst hM12
          exact h 100000 (Or.inr ⟨rfl, fun d hdd => by
            show ¬ wn ≤ fb_ct _ (d + 1)
            have h9 := fb_ct_mono (ctB PP hd be en k) (m := d + 1) (n := 30 * 120) (by omega)
            omega⟩)
        · have hM12 : M < 120 := lt_of_c (b := 120) c_15 (by omega) (by omega)
          have hbw := hRk.2.1 k hk hs M hM12
          have hsp := fb_ct_split (ctB PP hd be en k) (30 * M) 30
          have hle := fb_ct_le (fun d => ctB PP hd be en k (30 * M + d)) 30
          refine a_aload_n hX dX3_dayOfCount_18 rfl ?_
          refine a_iload_n hX dX3_dayOfCount_19 rfl ?_
          refine a_iload hX dX3_dayOfCount_20 rfl ?_
          refine a_callV [_, _] hX c_X3_countingIn mi_X3_countingIn mv_X3_countingIn se_X3_countingIn (klt rfl (by decide)) (adr_lt (kd_lt rfl (by decide))) (cell_3 rfl) rfl li_X3_135 (by decide) rfl rfl (Nat.le_of_ble_eq_true rfl) (fun q => q) dX3_dayOfCount_22 ⟨_, _, PP, hd, be, en, rfl, hk, hs, hRk, hM12, ?_⟩
          refine a_istore (ls' := [_, _, _, _, _, _, _]) hX dX3_dayOfCount_25 (Nat.le_of_ble_eq_true rfl) rfl ?_
          refine a_iload hX dX3_dayOfCount_27 rfl ?_
          refine a_callS [_] hX c_J6_bitCount_0f7a4 mi_J6_bitCount_0f7a4 ms_J6_bitCount_0f7a4 li_X3_138 (by decide) rfl rfl (Nat.le_of_ble_eq_true rfl) (fun q => q) dX3_dayOfCount_29 ⟨_, _, rfl, hbw, ?_⟩
          refine a_istore (ls' := [_, _, _, _, _, _, _]) hX dX3_dayOfCount_32 (Nat.le_of_ble_eq_true rfl) rfl ?_
          refine a_iload hX dX3_dayOfCount_34 rfl ?_
          refine a_iload_n hX dX3_dayOfCount_36 rfl ?_
          refine a_icmp_lt 53 hX dX3_dayOfCount_37 (by decide) (fun c_37 => ?_) (fun c_37 => ?_)
          · have hlt0 : fb_ct (fun d => ctB PP hd be en k (30 * M + d)) 30 < wn - fb_ct (ctB PP hd be en k) (30 * M) := (nI_ltI (by omega) (by omega)).mp c_37
            have hlt : fb_ct (ctB PP hd be en k) (30 * (M + 1)) < wn := by
              rw [show 30 * (M + 1) = 30 * M + 30 by omega, hsp]
              omega
            refine a_iload_n hX dX3_dayOfCount_53 rfl ?_
            refine a_iload hX dX3_dayOfCount_54 rfl ?_
            refine a_isub hX dX3_dayOfCount_56 ?_
            rw [pk_sub (by omega), show wn - fb_ct (ctB PP hd be en k) (30 * M) - fb_ct (fun d => ctB PP hd be en k (30 * M + d)) 30 = wn - fb_ct (ctB PP hd be en k) (30 * (M + 1)) by rw [show 30 * (M + 1) = 30 * M + 30 by omega, hsp]; omega]
            refine a_istore_n (ls' := [_, _, _, _, _, _, _]) hX dX3_dayOfCount_57 (Nat.le_of_ble_eq_true rfl) rfl ?_
            refine a_iinc (ls' := [_, _, _, _, _, _, _]) (nI (M + 1)) hX dX3_dayOfCount_58 rfl (nI_i1 M) rfl ?_
            refine a_goto 11 hX dX3_dayOfCount_61 (by decide) ?_
            exact ih (M + 1) _ _ (by omega) (by omega) hlt
          · have hge : wn - fb_ct (ctB PP hd be en k) (30 * M) ≤ fb_ct (fun d => ctB PP hd be en k (30 * M + d)) 30 := Nat.not_lt.mp (fun q => c_37 (nI_lt q (by omega)))
            refine a_iload hX dX3_dayOfCount_40 rfl ?_
            refine a_bipush (30) hX dX3_dayOfCount_42 (by decide) ?_
            refine a_imul hX dX3_dayOfCount_44 ?_
            refine a_iload hX dX3_dayOfCount_45 rfl ?_
            refine a_iload_n hX dX3_dayOfCount_47 rfl ?_
            refine a_callS [_, _] hX c_X3_dayOfBit mi_X3_dayOfBit ms_X3_dayOfBit li_X3_152 (by decide) rfl rfl (Nat.le_of_ble_eq_true rfl) (fun q => q) dX3_dayOfCount_48 ⟨_, _, _, rfl, hbw, (by omega), hge, ?_⟩
            intro j48 hj48 hb48 hc48
            rw [show nI M * 30 = nI (M * 30) from pk_mul M 30]
            refine a_iadd hX dX3_dayOfCount_51 ?_
            rw [nI_add]
            refine a_iret hX hR dX3_dayOfCount_52 ⟨Nat.le_refl _, Nat.le_refl _⟩ rfl ?_
            exact h (M * 30 + j48) (Or.inl ⟨by omega, by
              show wn ≤ fb_ct _ (M * 30 + j48 + 1)
              rw [show M * 30 + j48 + 1 = 30 * M + (j48 + 1) by omega, fb_ct_split]
              omega, fun d hdd => by
              show ¬ wn ≤ fb_ct _ (d + 1)
              have h9 := fb_ct_mono (ctB PP hd be en k) (m := d + 1) (n := 30 * M + j48) (by omega)
              rw [fb_ct_split _ (30 * M) j48] at h9
              have h10 := fb_ct_succ (fun d => ctB PP hd be en k (30 * M + d)) j48
              simp only [hb48, if_true] at h10
              omega⟩)
    exact L11 121 0 none none (by omega) (by omega) hw0
  · refine a_iconst (0) hX dX3_dayOfCount_6 (by decide) ?_
    refine a_iret hX hR dX3_dayOfCount_7 ⟨Nat.le_refl _, Nat.le_refl _⟩ rfl ?_
    have hw0 : wn = 0 := by
      have h9 : ¬ nI 0 < nI wn := c_3
      rw [nI_ltI (by decide) (by omega)] at h9
      omega
    subst hw0
    exact h 0 (Or.inl ⟨by omega, Nat.zero_le _, fun d hd => by omega⟩)
def wnN (PP : Nat → Nat → Int32) (t i : Nat) : Nat := if PP i 0 = 5 then ix (PP i 3) else (ix (PP i 3) * t + 999) / 1000
theorem wnN_b {PP : Nat → Nat → Int32} {t i : Nat} (hv : vP PP) (hi : i < 12) (ht : t ≤ 1000) : wnN PP t i ≤ 3600 ∧ (PP i 0 = 5 → PP i 3 = nI (wnN PP t i)) ∧ (¬ PP i 0 = 5 → (PP i 3 * nI t + 999) / 1000 = nI (wnN PP t i)) := by
  obtain ⟨-, -, -, ⟨n, hn, en, -⟩, -⟩ := hv i hi
  have hm : n * t ≤ n * 1000 := Nat.mul_le_mul_left n ht
  unfold wnN
  rw [en, ix_nI (by omega)]
  refine ⟨by split <;> omega, fun h => by rw [if_pos h], fun h => ?_⟩
  rw [if_neg h, pk_mul, show nI (n * t) + 999 = nI (n * t + 999) from nI_add _ 999]
  exact pk_div (d := 1000) (by omega) (by decide) (by decide)
abbrev T_X3_watchedDay : Tr := fun lay av w Po => ∃ (q t : Nat) (hd : Nat → Bool) (be en : Nat → Nat), av = [.ref (lay 210), .ref (lay q), .int (nI t)] ∧ (kd q = 1) ∧ (vP (plF w q)) ∧ (t ≤ 1000) ∧ (RkS w (plF w q) hd be en) ∧ (∀ k, k < 12 → bdN (be k) ∧ bdN (en k)) ∧ ∀ dc : Nat → Nat, (∀ i, i < 12 → stB (plF w q) i = true → isEnd (fun d => wnN (plF w q) t i ≤ fb_ct (ctB (plF w q) hd be en i) (d + 1)) (dc i)) → Po (some (.int (nI (maxF (stB (plF w q)) (fun i => min (dc i) (en i)) 0 12)))) w
set_option maxRecDepth 100000 in
set_option maxHeartbeats 4000000 in
theorem c_X3_watchedDay : Ct yX3_watchedDay cX3_watchedDay 7 (some .int) 3 0 0 T_X3_watchedDay := by
  refine Ct.mk (by decide +kernel) ?_
  intro X av w Po hX hR hT
  obtain ⟨q, t, hd, be, en, rfl, hq, hv, ht, hRk, hbd, h⟩ := hT
  refine ⟨rfl, ?_⟩
  show A X 0 0 0 [some (.ref (xlay X 210)), some (.ref (xlay X q)), some (.int (nI t)), none, none, none, none] [] w
  refine a_iconst (0) hX dX3_watchedDay_0 (by decide) ?_
  refine a_istore_n (ls' := [_, _, _, _, _, _, _]) hX dX3_watchedDay_1 (Nat.le_of_ble_eq_true rfl) rfl ?_
  refine a_iconst (0) hX dX3_watchedDay_2 (by decide) ?_
  refine a_istore (ls' := [_, _, _, _, _, _, _]) hX dX3_watchedDay_3 (Nat.le_of_ble_eq_true rfl) rfl ?_
  have L5 : ∀ (fu : Nat) (i : Nat) (x : Int32) (dc : Nat → Nat) (y5 y6 : Option Value), 12 - i < fu → (i ≤ 12) → (x = nI (maxF (stB (plF w q)) (fun i => min (dc i) (en i)) 0 i)) → (∀ j, j < i → stB (plF w q) j = true → isEnd (fun d => wnN (plF w q) t j ≤ fb_ct (ctB (plF w q) hd be en j) (d + 1)) (dc j)) → A X 0 0 5 [some (.ref (xlay X 210)), some (.ref (xlay X q)), some (.int (nI t)), some (.int x), some (.int (nI i)), y5, y6] [] w := by
    intro fu
    induction fu with
    | zero => intro i x dc y5 y6 hmu; exact absurd hmu (Nat.not_lt_zero _)
    | succ fu ih =>
      intro i x dc y5 y6 hmu hi hx hdc
      refine a_iload hX dX3_watchedDay_5 rfl ?_
      refine a_bipush (12) hX dX3_watchedDay_7 (by decide) ?_
      refine a_icmp_ge 94 hX dX3_watchedDay_9 (by decide) (fun c_9 => ?_) (fun c_9 => ?_)
      · refine a_iload_n hX dX3_watchedDay_94 rfl ?_
        refine a_iret hX hR dX3_watchedDay_95 ⟨Nat.le_refl _, Nat.le_refl _⟩ rfl ?_
        have hi12 : i = 12 := by
          have := le_of_c (b := 12) c_9 (by omega) (by omega)
          omega
        subst hi12
        exact po_int (h dc (fun j hj hs => hdc j hj hs)) hx.symm
      · have hi12 : i < 12 := lt_of_c (b := 12) c_9 (by omega) (by omega)
        have hnm : nmP (w.1 210 6) (nI i) ↔ stB (plF w q) i = true := by
          rw [nm_bt (by omega), hRk.2.2 i (by omega)]
          simp [hi12]
        obtain ⟨hw1, hw2, hw3⟩ := wnN_b (t := t) hv hi12 ht
        have hmb : maxF (stB (plF w q)) (fun i => min (dc i) (en i)) 0 i ≤ 200000 := maxF_le (by omega) (fun j hj hp => by
          have := (hbd j (by omega)).2
          unfold bdN at this
          omega)
        refine a_aload_n hX dX3_watchedDay_12 rfl ?_
        refine a_iload hX dX3_watchedDay_13 rfl ?_
        refine a_callV [_] hX c_X1_at mi_X1_at mv_X1_at se_X1_at (klt hq (by decide)) (adr_lt (kd_lt hq (by decide))) (cell_1 hq) rfl li_X3_43 (by decide) rfl rfl (Nat.le_of_ble_eq_true rfl) (fun q => q) dX3_watchedDay_15 ⟨_, _, rfl, hq, Or.inl ⟨i, hi12, rfl, ?_⟩⟩
        refine a_astore (ls' := [_, _, _, _, _, _, _]) hX dX3_watchedDay_18 (Nat.le_of_ble_eq_true rfl) rfl ?_
        refine a_aload hX dX3_watchedDay_20 rfl ?_
        refine a_ifnull hX dX3_watchedDay_22 ?_
        refine a_aload_n hX dX3_watchedDay_25 rfl ?_
        refine gf_X3_34 rfl hX dX3_watchedDay_26 ?_
        refine a_iload hX dX3_watchedDay_29 rfl ?_
        refine a_callSN [_, _] hX c_X7_names mi_X7_names ms_X7_names ln_X3_55 (by decide) rfl rfl (Nat.le_of_ble_eq_true rfl) (fun q => q) dX3_watchedDay_31 ⟨_, _, rfl, ?_⟩
        refine a_if_eq_b 88 hX dX3_watchedDay_34 (by decide) (fun c_34 => ?_) (fun c_34 => ?_)
        · refine a_iinc (ls' := [_, _, _, _, _, _, _]) (nI (i + 1)) hX dX3_watchedDay_88 rfl (nI_i1 i) rfl ?_
          refine a_goto 5 hX dX3_watchedDay_91 (by decide) ?_
          have hns : stB (plF w q) i = false := by
            have h9 := fun z => c_34 (hnm.mpr z)
            simpa using h9
          exact ih (i + 1) _ dc _ _ (by omega) (by omega) (mx_f hns hx) (fun j hj hsj => by
            by_cases e : j = i
            · subst e
              rw [hns] at hsj
              cases hsj
            · exact hdc j (by omega) hsj)
        · have hsi := hnm.mp c_34
          have J63 : ∀ (y : Int32), (y = nI (wnN (plF w q) t i)) → A X 0 0 63 [some (.ref (xlay X 210)), some (.ref (xlay X q)), some (.int (nI t)), some (.int x), some (.int (nI i)), some (.ref (xlay X (q + 1 + 4 + i))), y6] [.int y] w := by
            intro y hy
            refine a_istore (ls' := [_, _, _, _, _, _, _]) hX dX3_watchedDay_63 (Nat.le_of_ble_eq_true rfl) rfl ?_
            subst hy
            refine a_iload_n hX dX3_watchedDay_65 rfl ?_
            refine a_aload_n hX dX3_watchedDay_66 rfl ?_
            refine a_iload hX dX3_watchedDay_67 rfl ?_
            refine a_iload hX dX3_watchedDay_69 rfl ?_
            refine a_callV [_, _] hX c_X3_dayOfCount mi_X3_dayOfCount mv_X3_dayOfCount se_X3_dayOfCount (klt rfl (by decide)) (adr_lt (kd_lt rfl (by decide))) (cell_3 rfl) rfl li_X3_149 (by decide) rfl rfl (Nat.le_of_ble_eq_true rfl) (fun q => q) dX3_watchedDay_71 ⟨_, _, (plF w q), hd, be, en, rfl, hi12, hsi, hRk, hw1, ?_⟩
            intro e71 h71
            refine a_aload_n hX dX3_watchedDay_74 rfl ?_
            refine gf_X3_15 rfl hX dX3_watchedDay_75 ?_
            refine a_iload hX dX3_watchedDay_78 rfl ?_
            refine a_iald (i) hX rfl rfl (show _ < 12 by omega) dX3_watchedDay_80 ?_
            refine a_mmin hX (by decide) rfl (Nat.le_of_ble_eq_true rfl) dX3_watchedDay_81 li_X3_110 ?_
            refine a_mmax hX (by decide) rfl (Nat.le_of_ble_eq_true rfl) dX3_watchedDay_84 li_X3_105 ?_
            refine a_istore_n (ls' := [_, _, _, _, _, _, _]) hX dX3_watchedDay_87 (Nat.le_of_ble_eq_true rfl) rfl ?_
            refine a_iinc (ls' := [_, _, _, _, _, _, _]) (nI (i + 1)) hX dX3_watchedDay_88 rfl (nI_i1 i) rfl ?_
            refine a_goto 5 hX dX3_watchedDay_91 (by decide) ?_
            have hebd := bdN_end h71
            have hen := (hbd i hi12).2
            unfold bdN at hebd hen
            refine ih (i + 1) _ (up1 dc i e71) _ _ (by omega) (by omega) ?_ (fun j hj hsj => ?_)
            · have e1 : maxF (stB (plF w q)) (fun j => min (up1 dc i e71 j) (en j)) 0 i = maxF (stB (plF w q)) (fun j => min (dc j) (en j)) 0 i := maxF_cong (fun j hj hp => by
                unfold up1
                rw [if_neg (by omega)])
              refine mx_t (f := fun j => min (up1 dc i e71 j) (en j)) hsi (by rw [e1]; exact hx) ?_ (by rw [e1]; omega) ?_
              · show _ = nI (min (up1 dc i e71 i) (en i))
                unfold up1
                rw [if_pos rfl, (hRk.1 i hi12).2]
                exact mn_nI (by omega) (by omega)
              · show min (up1 dc i e71 i) (en i) < 2 ^ 31
                omega
            · unfold up1
              by_cases e : j = i
              · subst e
                rw [if_pos rfl]
                exact h71
              · rw [if_neg e]
                exact hdc j (by omega) hsj
          refine a_aload hX dX3_watchedDay_37 rfl ?_
          refine gf_X3_66 (K1_p hq hi12) hX dX3_watchedDay_39 ?_
          refine a_iconst (5) hX dX3_watchedDay_42 (by decide) ?_
          refine a_icmp_ne 54 hX dX3_watchedDay_43 (by decide) (fun c_43 => ?_) (fun c_43 => ?_)
          · refine a_aload hX dX3_watchedDay_54 rfl ?_
            refine gf_X3_84 (K1_p hq hi12) hX dX3_watchedDay_56 ?_
            refine a_iload_n hX dX3_watchedDay_59 rfl ?_
            refine a_callSN [_, _] hX c_X7_part mi_X7_part ms_X7_part ln_X3_146 (by decide) rfl rfl (Nat.le_of_ble_eq_true rfl) (fun q => q) dX3_watchedDay_60 ⟨_, _, rfl, ?_⟩
            exact J63 _ (hw3 c_43)
          · refine a_aload hX dX3_watchedDay_46 rfl ?_
            refine gf_X3_84 (K1_p hq hi12) hX dX3_watchedDay_48 ?_
            refine a_goto 63 hX dX3_watchedDay_51 (by decide) ?_
            exact J63 _ (hw2 c_43)
  exact L5 13 0 _ (fun _ => 0) none none (by omega) (by omega) rfl (fun j hj => by omega)
