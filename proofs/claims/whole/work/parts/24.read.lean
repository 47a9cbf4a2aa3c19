/-! reading the reckoning -/
theorem nx_and (a b : Nat) : nI a &&& nI b = nI (a &&& b) := by
  apply Int32.toBitVec_inj.1
  show BitVec.ofNat 32 a &&& BitVec.ofNat 32 b = BitVec.ofNat 32 (a &&& b)
  apply BitVec.eq_of_getLsbD_eq
  intro i hi
  simp [hi]
theorem BW_nat {x : Int32} {b : Nat → Bool} (h : BW x b) : ∃ Z, Z < 2 ^ 30 ∧ x = nI Z ∧ ∀ k, Z.testBit k = (decide (k < 30) && b k) := by
  have hx : x = nI x.toBitVec.toNat := by
    apply Int32.toBitVec_inj.mp
    show x.toBitVec = BitVec.ofNat 32 x.toBitVec.toNat
    simp
  have hbt : ∀ k, x.toBitVec.toNat.testBit k = (decide (k < 30) && b k) := by
    intro k
    by_cases hk : k < 32
    · rw [← h k hk]; rfl
    · have h2 : x.toBitVec.toNat < 2 ^ k := Nat.lt_of_lt_of_le x.toBitVec.isLt (Nat.pow_le_pow_right (by decide) (by omega))
      rw [Nat.testBit_lt_two_pow h2]
      simp
      omega
  refine ⟨x.toBitVec.toNat, ?_, hx, hbt⟩
  apply Nat.lt_pow_two_of_testBit
  intro i hi
  rw [hbt]
  simp
  omega
abbrev T_J6_bitCount_0f7a4 : Tr := fun lay av w Po => ∃ (x : Int32) (b : Nat → Bool), av = [.int x] ∧ (BW x b) ∧ Po (some (.int (nI (fb_ct b 30)))) w
set_option maxRecDepth 100000 in
set_option maxHeartbeats 4000000 in
theorem c_J6_bitCount_0f7a4 : Ct yJ6_bitCount_0f7a4 cJ6_bitCount_0f7a4 1 (some .int) 0 0 0 T_J6_bitCount_0f7a4 := by
  refine Ct.mk (by decide +kernel) ?_
  intro X av w Po hX hR hT
  obtain ⟨x, b, rfl, hb, h⟩ := hT
  refine ⟨rfl, ?_⟩
  show A X 0 0 0 [some (.int x)] [] w
  obtain ⟨Z, hZ, rfl, hZb⟩ := BW_nat hb
  obtain ⟨q1, q2, q3, p0, p1, p2, p3, r0, r1, r2, r3, q4, q5⟩ := pop_32 (X := Z) (by omega)
  have hA : pA 1431655765 Z ≤ Z := Nat.sub_le _ _
  refine a_iload_n hX dJ6_bitCount_0f7a4_0 rfl ?_
  refine a_iload_n hX dJ6_bitCount_0f7a4_1 rfl ?_
  refine a_iconst (1) hX dJ6_bitCount_0f7a4_2 (by decide) ?_
  refine a_iushr hX dJ6_bitCount_0f7a4_3 ?_
  rw [show ((nI Z).toUInt32 >>> (((1 : Int32)).toUInt32 &&& Int32.toUInt32 31)).toInt32 = nI (Z / 2 ^ 1) from pk_ushrN (by omega) 1 1 rfl]
  refine a_ldcw hX dJ6_bitCount_0f7a4_4 co_J6_265 ?_
  refine a_iand hX dJ6_bitCount_0f7a4_7 ?_
  rw [show nI (Z / 2 ^ 1) &&& 1431655765 = nI (Z / 2 &&& 1431655765) from nx_and _ 1431655765]
  refine a_isub hX dJ6_bitCount_0f7a4_8 ?_
  rw [show nI Z - nI (Z / 2 &&& 1431655765) = nI (pA 1431655765 Z) from pk_sub q1]
  refine a_istore_n (ls' := [_]) hX dJ6_bitCount_0f7a4_9 (Nat.le_of_ble_eq_true rfl) rfl ?_
  refine a_iload_n hX dJ6_bitCount_0f7a4_10 rfl ?_
  refine a_ldcw hX dJ6_bitCount_0f7a4_11 co_J6_266 ?_
  refine a_iand hX dJ6_bitCount_0f7a4_14 ?_
  rw [show nI (pA 1431655765 Z) &&& 858993459 = nI (pA 1431655765 Z &&& 858993459) from nx_and _ 858993459]
  refine a_iload_n hX dJ6_bitCount_0f7a4_15 rfl ?_
  refine a_iconst (2) hX dJ6_bitCount_0f7a4_16 (by decide) ?_
  refine a_iushr hX dJ6_bitCount_0f7a4_17 ?_
  rw [show ((nI (pA 1431655765 Z)).toUInt32 >>> (((2 : Int32)).toUInt32 &&& Int32.toUInt32 31)).toInt32 = nI ((pA 1431655765 Z) / 2 ^ 2) from pk_ushrN (by omega) 2 2 rfl]
  refine a_ldcw hX dJ6_bitCount_0f7a4_18 co_J6_266 ?_
  refine a_iand hX dJ6_bitCount_0f7a4_21 ?_
  rw [show nI (pA 1431655765 Z / 2 ^ 2) &&& 858993459 = nI (pA 1431655765 Z / 4 &&& 858993459) from nx_and _ 858993459]
  refine a_iadd hX dJ6_bitCount_0f7a4_22 ?_
  rw [show nI (pA 1431655765 Z &&& 858993459) + nI (pA 1431655765 Z / 4 &&& 858993459) = nI (pB 858993459 (pA 1431655765 Z)) from nI_add _ _]
  refine a_istore_n (ls' := [_]) hX dJ6_bitCount_0f7a4_23 (Nat.le_of_ble_eq_true rfl) rfl ?_
  refine a_iload_n hX dJ6_bitCount_0f7a4_24 rfl ?_
  refine a_iload_n hX dJ6_bitCount_0f7a4_25 rfl ?_
  refine a_iconst (4) hX dJ6_bitCount_0f7a4_26 (by decide) ?_
  refine a_iushr hX dJ6_bitCount_0f7a4_27 ?_
  rw [show ((nI (pB 858993459 (pA 1431655765 Z))).toUInt32 >>> (((4 : Int32)).toUInt32 &&& Int32.toUInt32 31)).toInt32 = nI ((pB 858993459 (pA 1431655765 Z)) / 2 ^ 4) from pk_ushrN (by omega) 4 4 rfl]
  refine a_iadd hX dJ6_bitCount_0f7a4_28 ?_
  rw [show nI (pB 858993459 (pA 1431655765 Z)) + nI (pB 858993459 (pA 1431655765 Z) / 2 ^ 4) = nI (pB 858993459 (pA 1431655765 Z) + pB 858993459 (pA 1431655765 Z) / 16) from nI_add _ _]
  refine a_ldcw hX dJ6_bitCount_0f7a4_29 co_J6_267 ?_
  refine a_iand hX dJ6_bitCount_0f7a4_32 ?_
  rw [show nI (pB 858993459 (pA 1431655765 Z) + pB 858993459 (pA 1431655765 Z) / 16) &&& 252645135 = nI (pC 252645135 (pB 858993459 (pA 1431655765 Z))) from nx_and _ 252645135]
  generalize pC 252645135 (pB 858993459 (pA 1431655765 Z)) = Y at q4 ⊢
  refine a_istore_n (ls' := [_]) hX dJ6_bitCount_0f7a4_33 (Nat.le_of_ble_eq_true rfl) rfl ?_
  refine a_iload_n hX dJ6_bitCount_0f7a4_34 rfl ?_
  refine a_iload_n hX dJ6_bitCount_0f7a4_35 rfl ?_
  refine a_bipush (8) hX dJ6_bitCount_0f7a4_36 (by decide) ?_
  refine a_iushr hX dJ6_bitCount_0f7a4_38 ?_
  rw [show ((nI Y).toUInt32 >>> (((8 : Int32)).toUInt32 &&& Int32.toUInt32 31)).toInt32 = nI (Y / 2 ^ 8) from pk_ushrN (by omega) 8 8 rfl]
  refine a_iadd hX dJ6_bitCount_0f7a4_39 ?_
  rw [show nI Y + nI (Y / 2 ^ 8) = nI (Y + Y / 256) from nI_add _ _]
  refine a_istore_n (ls' := [_]) hX dJ6_bitCount_0f7a4_40 (Nat.le_of_ble_eq_true rfl) rfl ?_
  refine a_iload_n hX dJ6_bitCount_0f7a4_41 rfl ?_
  refine a_iload_n hX dJ6_bitCount_0f7a4_42 rfl ?_
  refine a_bipush (16) hX dJ6_bitCount_0f7a4_43 (by decide) ?_
  refine a_iushr hX dJ6_bitCount_0f7a4_45 ?_
  rw [show ((nI (Y + Y / 256)).toUInt32 >>> (((16 : Int32)).toUInt32 &&& Int32.toUInt32 31)).toInt32 = nI ((Y + Y / 256) / 2 ^ 16) from pk_ushrN (by omega) 16 16 rfl]
  refine a_iadd hX dJ6_bitCount_0f7a4_46 ?_
  rw [show nI (Y + Y / 256) + nI ((Y + Y / 256) / 2 ^ 16) = nI (Y + Y / 256 + (Y + Y / 256) / 65536) from nI_add _ _]
  refine a_istore_n (ls' := [_]) hX dJ6_bitCount_0f7a4_47 (Nat.le_of_ble_eq_true rfl) rfl ?_
  refine a_iload_n hX dJ6_bitCount_0f7a4_48 rfl ?_
  refine a_bipush (63) hX dJ6_bitCount_0f7a4_49 (by decide) ?_
  refine a_iand hX dJ6_bitCount_0f7a4_51 ?_
  refine a_iret hX hR dJ6_bitCount_0f7a4_52 ⟨Nat.le_refl _, Nat.le_refl _⟩ rfl ?_
  exact po_int h (by
    rw [show nI (Y + Y / 256 + (Y + Y / 256) / 65536) &&& 63 = nI ((Y + Y / 256 + (Y + Y / 256) / 65536) &&& 63) from nx_and _ 63, pop_fin r0 r1 r2 r3 q4, q5]
    congr 1
    unfold popN
    have h1 := fb_ct_split (fun k => Z.testBit k) 30 2
    have h2 : fb_ct (fun k => Z.testBit (30 + k)) 2 = 0 := fb_ct_zero.mpr (fun k hk => by rw [hZb]; simp; omega)
    rw [h2] at h1
    rw [show fb_ct (fun k => Z.testBit k) 32 = fb_ct (fun k => Z.testBit k) 30 from h1]
    exact fb_ct_cong (fun k hk => by rw [hZb]; simp [hk]))
abbrev T_X3_countingIn : Tr := fun lay av w Po => ∃ (k M : Nat) (PP : Nat → Nat → Int32) (hd : Nat → Bool) (be en : Nat → Nat), av = [.ref (lay 210), .int (nI k), .int (nI M)] ∧ (k < 12) ∧ (stB PP k = true) ∧ (RkS w PP hd be en) ∧ (M < 120) ∧ Po (some (.int (w.1 213 (120 * k + M)))) w
set_option maxRecDepth 100000 in
set_option maxHeartbeats 4000000 in
theorem c_X3_countingIn : Ct yX3_countingIn cX3_countingIn 4 (some .int) 1 0 0 T_X3_countingIn := by
  refine Ct.mk (by decide +kernel) ?_
  intro X av w Po hX hR hT
  obtain ⟨k, M, PP, hd, be, en, rfl, hk, hs, hRk, hM, h⟩ := hT
  refine ⟨rfl, ?_⟩
  show A X 0 0 0 [some (.ref (xlay X 210)), some (.int (nI k)), some (.int (nI M)), none] [] w
  refine a_iload_n hX dX3_countingIn_0 rfl ?_
  refine a_callSN [_] hX c_X7_isPlace mi_X7_isPlace ms_X7_isPlace ln_X3_38 (by decide) rfl rfl (Nat.le_of_ble_eq_true rfl) (fun q => q) dX3_countingIn_1 ⟨_, rfl, ?_⟩
  refine a_if_eq_b 29 hX dX3_countingIn_4 (by decide) (fun c_4 => ?_) (fun c_4 => ?_)
  · exact absurd (in_rng hk (by decide)) c_4
  · refine a_aload_n hX dX3_countingIn_7 rfl ?_
    refine gf_X3_34 rfl hX dX3_countingIn_8 ?_
    refine a_iload_n hX dX3_countingIn_11 rfl ?_
    refine a_callSN [_, _] hX c_X7_names mi_X7_names ms_X7_names ln_X3_55 (by decide) rfl rfl (Nat.le_of_ble_eq_true rfl) (fun q => q) dX3_countingIn_12 ⟨_, _, rfl, ?_⟩
    refine a_if_eq_b 29 hX dX3_countingIn_15 (by decide) (fun c_15 => ?_) (fun c_15 => ?_)
    · exact absurd ((nm_bt (by omega)).mpr (by rw [hRk.2.2 k (by omega), hs]; simp [hk])) c_15
    · refine a_iload_n hX dX3_countingIn_18 rfl ?_
      refine a_callSN [_] hX c_X7_isMonth mi_X7_isMonth ms_X7_isMonth ln_X3_129 (by decide) rfl rfl (Nat.le_of_ble_eq_true rfl) (fun q => q) dX3_countingIn_19 ⟨_, rfl, ?_⟩
      refine a_if_eq_b 29 hX dX3_countingIn_22 (by decide) (fun c_22 => ?_) (fun c_22 => ?_)
      · exact absurd (in_rng hM (by decide)) c_22
      · refine a_iconst (1) hX dX3_countingIn_25 (by decide) ?_
        refine a_goto 30 hX dX3_countingIn_26 (by decide) ?_
        refine a_istore_n (ls' := [_, _, _, _]) hX dX3_countingIn_30 (Nat.le_of_ble_eq_true rfl) rfl ?_
        refine a_iload_n hX dX3_countingIn_31 rfl ?_
        refine a_if_eq 49 hX dX3_countingIn_32 (by decide) (fun c_32 => ?_) (fun c_32 => ?_)
        · exact absurd c_32 (by decide)
        · refine a_aload_n hX dX3_countingIn_35 rfl ?_
          refine gf_X3_18 rfl hX dX3_countingIn_36 ?_
          refine a_iload_n hX dX3_countingIn_39 rfl ?_
          refine a_bipush (120) hX dX3_countingIn_40 (by decide) ?_
          refine a_imul hX dX3_countingIn_42 ?_
          refine a_iload_n hX dX3_countingIn_43 rfl ?_
          refine a_iadd hX dX3_countingIn_44 ?_
          refine a_iald (120 * k + M) hX rfl (show nI k * 120 + nI M = nI (120 * k + M) from by rw [show nI k * 120 = nI (k * 120) from pk_mul k 120, nI_add, Nat.mul_comm]) (show _ < 1440 by omega) dX3_countingIn_45 ?_
          refine a_goto 50 hX dX3_countingIn_46 (by decide) ?_
          refine a_iret hX hR dX3_countingIn_50 ⟨Nat.le_refl _, Nat.le_refl _⟩ rfl ?_
          exact h
abbrev T_X3_doesCount : Tr := fun lay av w Po => ∃ (k d : Nat) (PP : Nat → Nat → Int32) (hd : Nat → Bool) (be en : Nat → Nat), av = [.ref (lay 210), .int (nI k), .int (nI d)] ∧ (k < 12) ∧ (stB PP k = true) ∧ (RkS w PP hd be en) ∧ (d < 4000) ∧ Po (some (.int (bI (d < 3600 ∧ ctB PP hd be en k d = true)))) w
set_option maxRecDepth 100000 in
set_option maxHeartbeats 4000000 in
theorem c_X3_doesCount : Ct yX3_doesCount cX3_doesCount 3 (some .boolean) 2 0 0 T_X3_doesCount := by
  refine Ct.mk (by decide +kernel) ?_
  intro X av w Po hX hR hT
  obtain ⟨k, d, PP, hd, be, en, rfl, hk, hs, hRk, hdd, h⟩ := hT
  refine ⟨rfl, ?_⟩
  show A X 0 0 0 [some (.ref (xlay X 210)), some (.int (nI k)), some (.int (nI d))] [] w
  refine a_iload_n hX dX3_doesCount_0 rfl ?_
  refine a_callSN [_] hX c_X7_isDay mi_X7_isDay ms_X7_isDay ln_X3_132 (by decide) rfl rfl (Nat.le_of_ble_eq_true rfl) (fun q => q) dX3_doesCount_1 ⟨_, rfl, ?_⟩
  refine a_if_eq_b 30 hX dX3_doesCount_4 (by decide) (fun c_4 => ?_) (fun c_4 => ?_)
  · refine a_iconst (0) hX dX3_doesCount_30 (by decide) ?_
    refine a_iret hX hR dX3_doesCount_31 ⟨Nat.le_refl _, Nat.le_refl _⟩ rfl ?_
    exact po_int h (by
      first
      | (refine bI_f (fun z => c_4 ?_)
         exact in_rng (n := 3600) z.1 (by decide))
      | (refine bI_f (fun z => ?_)
         rw [nm_0 (by omega), hbt, z.2] at c_23
         cases c_23)
      | (refine bI_t ⟨hd36, ?_⟩
         rw [nm_0 (by omega), hbt] at c_23
         simpa using c_23))
  · have hd36 : d < 3600 := (nI_ltI (b := 3600) (by omega) (by decide)).mp c_4.2
    have hd30 : nI d / 30 = nI (d / 30) := pk_div (d := 30) (by omega) (by decide) (by decide)
    have hm30 : nI d - nI d / 30 * 30 = nI (d % 30) := pk_rem (d := 30) (by omega) (by decide) (by decide)
    have hbt := (hRk.2.1 k hk hs (d / 30) (by omega)).at (show d % 30 < 30 by omega)
    rw [show 30 * (d / 30) + d % 30 = d by omega] at hbt
    refine a_aload_n hX dX3_doesCount_7 rfl ?_
    refine a_iload_n hX dX3_doesCount_8 rfl ?_
    refine a_iload_n hX dX3_doesCount_9 rfl ?_
    refine a_bipush (30) hX dX3_doesCount_10 (by decide) ?_
    refine a_idiv hX dX3_doesCount_12 (by decide) ?_
    rw [hd30]
    refine a_callV [_, _] hX c_X3_countingIn mi_X3_countingIn mv_X3_countingIn se_X3_countingIn (klt rfl (by decide)) (adr_lt (kd_lt rfl (by decide))) (cell_3 rfl) rfl li_X3_135 (by decide) rfl rfl (Nat.le_of_ble_eq_true rfl) (fun q => q) dX3_doesCount_13 ⟨_, _, PP, hd, be, en, rfl, hk, hs, hRk, (by omega), ?_⟩
    refine a_iload_n hX dX3_doesCount_16 rfl ?_
    refine a_bipush (30) hX dX3_doesCount_17 (by decide) ?_
    refine a_irem hX dX3_doesCount_19 (by decide) ?_
    rw [hm30]
    refine a_ishr hX dX3_doesCount_20 ?_
    refine a_iconst (1) hX dX3_doesCount_21 (by decide) ?_
    refine a_iand hX dX3_doesCount_22 ?_
    refine a_if_eq 30 hX dX3_doesCount_23 (by decide) (fun c_23 => ?_) (fun c_23 => ?_)
    · refine a_iconst (0) hX dX3_doesCount_30 (by decide) ?_
      refine a_iret hX hR dX3_doesCount_31 ⟨Nat.le_refl _, Nat.le_refl _⟩ rfl ?_
      exact po_int h (by
        first
        | (refine bI_f (fun z => c_4 ?_)
           exact in_rng (n := 3600) z.1 (by decide))
        | (refine bI_f (fun z => ?_)
           rw [nm_0 (by omega), hbt, z.2] at c_23
           cases c_23)
        | (refine bI_t ⟨hd36, ?_⟩
           rw [nm_0 (by omega), hbt] at c_23
           simpa using c_23))
    · refine a_iconst (1) hX dX3_doesCount_26 (by decide) ?_
      refine a_goto 31 hX dX3_doesCount_27 (by decide) ?_
      refine a_iret hX hR dX3_doesCount_31 ⟨Nat.le_refl _, Nat.le_refl _⟩ rfl ?_
      exact po_int h (by
        first
        | (refine bI_f (fun z => c_4 ?_)
           exact in_rng (n := 3600) z.1 (by decide))
        | (refine bI_f (fun z => ?_)
           rw [nm_0 (by omega), hbt, z.2] at c_23
           cases c_23)
        | (refine bI_t ⟨hd36, ?_⟩
           rw [nm_0 (by omega), hbt] at c_23
           simpa using c_23))
theorem bits_upto {x : Int32} {c : Nat → Bool} {d M : Nat} (h : BW x (fun j => c (30 * M + j))) (hd : d < 3600) (hM : M < 120) : BW (x &&& bUpTo (nI d - nI (M * 30))) (fun j => c (30 * M + j) && decide (30 * M + j ≤ d)) := by
  refine (h.and (bUpTo_BW _)).to (fun j hj => ?_)
  rw [pk_sub_toInt (by omega) (by omega)]
  congr 1
  simp only [decide_eq_decide]
  omega
theorem ct_upto (c : Nat → Bool) {d : Nat} (hd : d < 3600) : fb_ct (fun x => c x && decide (x ≤ d)) (30 * 120) = fb_ct c (d + 1) := by
  have h1 := fb_ct_split (fun x => c x && decide (x ≤ d)) (d + 1) (3600 - (d + 1))
  rw [show d + 1 + (3600 - (d + 1)) = 30 * 120 by omega] at h1
  have h2 : fb_ct (fun j => c (d + 1 + j) && decide (d + 1 + j ≤ d)) (3600 - (d + 1)) = 0 := fb_ct_zero.mpr (fun j hj => by simp; omega)
  rw [h1, h2]
  exact fb_ct_cong (fun x hx => by simp; omega)
abbrev T_X3_countedUpTo : Tr := fun lay av w Po => ∃ (k d : Nat) (PP : Nat → Nat → Int32) (hd : Nat → Bool) (be en : Nat → Nat), av = [.ref (lay 210), .int (nI k), .int (nI d)] ∧ (k < 12) ∧ (stB PP k = true) ∧ (RkS w PP hd be en) ∧ (d < 3600) ∧ Po (some (.int (nI (fb_ct (ctB PP hd be en k) (d + 1))))) w
set_option maxRecDepth 100000 in
set_option maxHeartbeats 4000000 in
theorem c_X3_countedUpTo : Ct yX3_countedUpTo cX3_countedUpTo 6 (some .int) 2 0 0 T_X3_countedUpTo := by
  refine Ct.mk (by decide +kernel) ?_
  intro X av w Po hX hR hT
  obtain ⟨k, d, PP, hd, be, en, rfl, hk, hs, hRk, hdd, h⟩ := hT
  refine ⟨rfl, ?_⟩
  show A X 0 0 0 [some (.ref (xlay X 210)), some (.int (nI k)), some (.int (nI d)), none, none, none] [] w
  refine a_iconst (0) hX dX3_countedUpTo_0 (by decide) ?_
  refine a_istore_n (ls' := [_, _, _, _, _, _]) hX dX3_countedUpTo_1 (Nat.le_of_ble_eq_true rfl) rfl ?_
  refine a_iconst (0) hX dX3_countedUpTo_2 (by decide) ?_
  refine a_istore (ls' := [_, _, _, _, _, _]) hX dX3_countedUpTo_3 (Nat.le_of_ble_eq_true rfl) rfl ?_
  have L5 : ∀ (fu : Nat) (M : Nat) (y : Option Value), 120 - M < fu → (M ≤ 120) → A X 0 0 5 [some (.ref (xlay X 210)), some (.int (nI k)), some (.int (nI d)), some (.int (nI (fb_ct (fun x => ctB PP hd be en k x && decide (x ≤ d)) (30 * M)))), some (.int (nI M)), y] [] w := by
    intro fu
    induction fu with
    | zero => intro M y hmu; exact absurd hmu (Nat.not_lt_zero _)
    | succ fu ih =>
      intro M y hmu hM
      refine a_iload hX dX3_countedUpTo_5 rfl ?_
      refine a_bipush (120) hX dX3_countedUpTo_7 (by decide) ?_
      refine a_icmp_ge 46 hX dX3_countedUpTo_9 (by decide) (fun c_9 => ?_) (fun c_9 => ?_)
      · refine a_iload_n hX dX3_countedUpTo_46 rfl ?_
        refine a_iret hX hR dX3_countedUpTo_47 ⟨Nat.le_refl _, Nat.le_refl _⟩ rfl ?_
        have hM12 : M = 120 := by
          have := le_of_c (b := 120) c_9 (by omega) (by omega)
          omega
        subst hM12
        exact po_int h (by rw [ct_upto _ hdd])
      · have hM12 : M < 120 := lt_of_c (b := 120) c_9 (by omega) (by omega)
        have hbw := bits_upto (c := ctB PP hd be en k) (d := d) (hRk.2.1 k hk hs M hM12) hdd hM12
        refine a_aload_n hX dX3_countedUpTo_12 rfl ?_
        refine a_iload_n hX dX3_countedUpTo_13 rfl ?_
        refine a_iload hX dX3_countedUpTo_14 rfl ?_
        refine a_callV [_, _] hX c_X3_countingIn mi_X3_countingIn mv_X3_countingIn se_X3_countingIn (klt rfl (by decide)) (adr_lt (kd_lt rfl (by decide))) (cell_3 rfl) rfl li_X3_135 (by decide) rfl rfl (Nat.le_of_ble_eq_true rfl) (fun q => q) dX3_countedUpTo_16 ⟨_, _, PP, hd, be, en, rfl, hk, hs, hRk, hM12, ?_⟩
        refine a_iload_n hX dX3_countedUpTo_19 rfl ?_
        refine a_iload hX dX3_countedUpTo_20 rfl ?_
        refine a_bipush (30) hX dX3_countedUpTo_22 (by decide) ?_
        refine a_imul hX dX3_countedUpTo_24 ?_
        rw [show nI M * 30 = nI (M * 30) from pk_mul M 30]
        refine a_isub hX dX3_countedUpTo_25 ?_
        refine a_callSN [_] hX c_X7_bitsUpTo mi_X7_bitsUpTo ms_X7_bitsUpTo ln_X3_99 (by decide) rfl rfl (Nat.le_of_ble_eq_true rfl) (fun q => q) dX3_countedUpTo_26 ⟨_, rfl, ?_⟩
        refine a_iand hX dX3_countedUpTo_29 ?_
        refine a_istore (ls' := [_, _, _, _, _, _]) hX dX3_countedUpTo_30 (Nat.le_of_ble_eq_true rfl) rfl ?_
        refine a_iload_n hX dX3_countedUpTo_32 rfl ?_
        refine a_iload hX dX3_countedUpTo_33 rfl ?_
        refine a_callS [_] hX c_J6_bitCount_0f7a4 mi_J6_bitCount_0f7a4 ms_J6_bitCount_0f7a4 li_X3_138 (by decide) rfl rfl (Nat.le_of_ble_eq_true rfl) (fun q => q) dX3_countedUpTo_35 ⟨_, _, rfl, hbw, ?_⟩
        refine a_iadd hX dX3_countedUpTo_38 ?_
        rw [nI_add, show fb_ct (fun x => ctB PP hd be en k x && decide (x ≤ d)) (30 * M) + fb_ct (fun j => ctB PP hd be en k (30 * M + j) && decide (30 * M + j ≤ d)) 30 = fb_ct (fun x => ctB PP hd be en k x && decide (x ≤ d)) (30 * (M + 1)) from (fb_ct_split _ (30 * M) 30).symm]
        refine a_istore_n (ls' := [_, _, _, _, _, _]) hX dX3_countedUpTo_39 (Nat.le_of_ble_eq_true rfl) rfl ?_
        refine a_iinc (ls' := [_, _, _, _, _, _]) (nI (M + 1)) hX dX3_countedUpTo_40 rfl (nI_i1 M) rfl ?_
        refine a_goto 5 hX dX3_countedUpTo_43 (by decide) ?_
        exact ih (M + 1) _ (by omega) (by omega)
  exact L5 121 0 none (by omega) (by omega)
theorem tk_run_f {ev mt : Nat} {is : Nat → Bool} {s0 : Nat × Nat × Nat} : ∀ n, (∀ k, k < n → is k = false) → tkN ev mt (runT ev is s0 n).2.1 (runT ev is s0 n).2.2 = tkN ev mt s0.2.1 s0.2.2
  | 0, _ => rfl
  | n + 1, h => by
    rw [runT_succ, h n (by omega), tkN_stf, tk_run_f n (fun k hk => h k (by omega))]
theorem tk_upto {ev mt : Nat} (c : Nat → Bool) {d : Nat} (hd : d < 3600) (s0 : Nat × Nat × Nat) : tkN ev mt (runT ev (fun x => c x && decide (x ≤ d)) s0 (30 * 120)).2.1 (runT ev (fun x => c x && decide (x ≤ d)) s0 (30 * 120)).2.2 = tkN ev mt (runT ev c s0 (d + 1)).2.1 (runT ev c s0 (d + 1)).2.2 := by
  have h1 := runT_add ev (fun x => c x && decide (x ≤ d)) s0 (d + 1) (3600 - (d + 1))
  rw [show d + 1 + (3600 - (d + 1)) = 30 * 120 by omega] at h1
  rw [h1, tk_run_f _ (fun j hj => by simp; omega), runT_cong (is' := c) (fun x hx => by simp; omega)]
abbrev T_X3_takenUpTo : Tr := fun lay av w Po => ∃ (q k d : Nat) (hd : Nat → Bool) (be en : Nat → Nat), av = [.ref (lay 210), .ref (lay (q + 1 + 4 + k)), .int (nI k), .int (nI d)] ∧ (kd q = 1) ∧ (k < 12) ∧ (vP (plF w q)) ∧ (stB (plF w q) k = true) ∧ (RkS w (plF w q) hd be en) ∧ (d < 3600) ∧ ∀ w' : St, Fr w w' (fun z => z = 216) → Po (some (.int (nI (tkN (ix (plF w q k 6)) (mtN (plF w q) k) (tlN (plF w q) k (ctB (plF w q) hd be en k) (d + 1)).2.1 (tlN (plF w q) k (ctB (plF w q) hd be en k) (d + 1)).2.2)))) w'
set_option maxRecDepth 100000 in
set_option maxHeartbeats 4000000 in
theorem c_X3_takenUpTo : Ct yX3_takenUpTo cX3_takenUpTo 6 (some .int) 4 0 0 T_X3_takenUpTo := by
  refine Ct.mk (by decide +kernel) ?_
  intro X av w Po hX hR hT
  obtain ⟨q, k, d, hd, be, en, rfl, hq, hk, hv, hs, hRk, hdd, h⟩ := hT
  refine ⟨rfl, ?_⟩
  show A X 0 0 0 [some (.ref (xlay X 210)), some (.ref (xlay X (q + 1 + 4 + k))), some (.int (nI k)), some (.int (nI d)), none, none] [] w
  refine a_aload_n hX dX3_takenUpTo_0 rfl ?_
  refine a_ifnonnull 6 hX dX3_takenUpTo_1 (by decide) ?_
  refine a_aload_n hX dX3_takenUpTo_6 rfl ?_
  refine gf_X3_30 rfl hX dX3_takenUpTo_7 ?_
  refine a_aload_n hX dX3_takenUpTo_10 rfl ?_
  refine a_callV [_] hX c_X6_start mi_X6_start mv_X6_start se_X6_start (klt rfl (by decide)) (adr_lt (kd_lt rfl (by decide))) (cell_6 rfl) rfl li_X3_80 (by decide) rfl rfl (Nat.le_of_ble_eq_true rfl) (fun q => q) dX3_takenUpTo_11 ⟨_, rfl, (K1_p hq hk), ?_⟩
  intro w11 h11
  refine a_iconst (0) hX dX3_takenUpTo_14 (by decide) ?_
  refine a_istore (ls' := [_, _, _, _, _, _]) hX dX3_takenUpTo_15 (Nat.le_of_ble_eq_true rfl) rfl ?_
  have L17 : ∀ (fu : Nat) (M : Nat) (w2 : St) (y : Option Value), 120 - M < fu → (M ≤ 120) → (Fr w w2 (fun z => z = 216)) → (TF (w2.1 216) (ix (plF w q k 6)) (mtN (plF w q) k) (ix (plF w q k 8)) (tlN (plF w q) k (fun x => ctB (plF w q) hd be en k x && decide (x ≤ d)) (30 * M))) → A X 0 0 17 [some (.ref (xlay X 210)), some (.ref (xlay X (q + 1 + 4 + k))), some (.int (nI k)), some (.int (nI d)), some (.int (nI M)), y] [] w2 := by
    intro fu
    induction fu with
    | zero => intro M w2 y hmu; exact absurd hmu (Nat.not_lt_zero _)
    | succ fu ih =>
      intro M w2 y hmu hM hf2 htf
      refine a_iload hX dX3_takenUpTo_17 rfl ?_
      refine a_bipush (120) hX dX3_takenUpTo_19 (by decide) ?_
      refine a_icmp_ge 62 hX dX3_takenUpTo_21 (by decide) (fun c_21 => ?_) (fun c_21 => ?_)
      · refine a_aload_n hX dX3_takenUpTo_62 rfl ?_
        refine gf_X3_30 rfl hX dX3_takenUpTo_63 ?_
        refine a_iconst (0) hX dX3_takenUpTo_66 (by decide) ?_
        refine a_callV [_] hX c_X6_takenWith mi_X6_takenWith mv_X6_takenWith se_X6_takenWith (klt rfl (by decide)) (adr_lt (kd_lt rfl (by decide))) (cell_6 rfl) rfl li_X3_143 (by decide) rfl rfl (Nat.le_of_ble_eq_true rfl) (fun q => q) dX3_takenUpTo_67 ⟨_, rfl, ?_⟩
        refine a_iret hX hR dX3_takenUpTo_70 ⟨Nat.le_refl _, Nat.le_refl _⟩ rfl ?_
        have hM12 : M = 120 := by
          have := le_of_c (b := 120) c_21 (by omega) (by omega)
          omega
        subst hM12
        refine po_int (h _ hf2) ?_
        have h9 := tkW_N htf (a := 0) (by omega)
        rw [Nat.add_zero] at h9
        refine Eq.trans ?_ h9.symm
        congr 1
        exact (tk_upto _ hdd _).symm
      · have hM12 : M < 120 := lt_of_c (b := 120) c_21 (by omega) (by omega)
        have hR2 : RkS w2 (plF w q) hd be en := by
          obtain ⟨a, b, c⟩ := hRk
          exact ⟨fun j hj => by rw [hf2.2 211 (by decide), hf2.2 212 (by decide)]; exact a j hj, fun j hj hsj K hK => by rw [hf2.2 213 (by decide)]; exact b j hj hsj K hK, fun j hj => by rw [hf2.2 210 (by decide)]; exact c j hj⟩
        have hbw := bits_upto (c := ctB (plF w q) hd be en k) (d := d) (hR2.2.1 k hk hs M hM12) hdd hM12
        have hcnt := runT_cnt_le (ev := ix (plF w q k 6)) (is := fun x => ctB (plF w q) hd be en k x && decide (x ≤ d)) (s0 := (0, 0, 0)) (30 * M)
        have hlc : (tlN (plF w q) k (fun x => ctB (plF w q) hd be en k x && decide (x ≤ d)) (30 * M)).1 + 30 ≤ 3600 := by
          unfold tlN
          simp only at hcnt
          omega
        have hrc : rcN (ix (plF w q k 6)) (mtN (plF w q) k) (ix (plF w q k 8)) (tlN (plF w q) k (fun x => ctB (plF w q) hd be en k x && decide (x ≤ d)) (30 * M)) < 100000 := by
          have h5 := tkN_le (ix (plF w q k 6)) (mtN (plF w q) k) (tlN (plF w q) k (fun x => ctB (plF w q) hd be en k x && decide (x ≤ d)) (30 * M)).2.1 (tlN (plF w q) k (fun x => ctB (plF w q) hd be en k x && decide (x ≤ d)) (30 * M)).2.2
          have h7 := htf.2.2.1
          unfold rcN
          omega
        refine a_aload_n hX dX3_takenUpTo_24 rfl ?_
        refine a_iload_n hX dX3_takenUpTo_25 rfl ?_
        refine a_iload hX dX3_takenUpTo_26 rfl ?_
        refine a_callV [_, _] hX c_X3_countingIn mi_X3_countingIn mv_X3_countingIn se_X3_countingIn (klt rfl (by decide)) (adr_lt (kd_lt rfl (by decide))) (cell_3 rfl) rfl li_X3_135 (by decide) rfl rfl (Nat.le_of_ble_eq_true rfl) (fun q => q) dX3_takenUpTo_28 ⟨_, _, (plF w q), hd, be, en, rfl, hk, hs, hR2, hM12, ?_⟩
        refine a_iload_n hX dX3_takenUpTo_31 rfl ?_
        refine a_iload hX dX3_takenUpTo_32 rfl ?_
        refine a_bipush (30) hX dX3_takenUpTo_34 (by decide) ?_
        refine a_imul hX dX3_takenUpTo_36 ?_
        rw [show nI M * 30 = nI (M * 30) from pk_mul M 30]
        refine a_isub hX dX3_takenUpTo_37 ?_
        refine a_callSN [_] hX c_X7_bitsUpTo mi_X7_bitsUpTo ms_X7_bitsUpTo ln_X3_99 (by decide) rfl rfl (Nat.le_of_ble_eq_true rfl) (fun q => q) dX3_takenUpTo_38 ⟨_, rfl, ?_⟩
        refine a_iand hX dX3_takenUpTo_41 ?_
        refine a_istore (ls' := [_, _, _, _, _, _]) hX dX3_takenUpTo_42 (Nat.le_of_ble_eq_true rfl) rfl ?_
        refine a_aload_n hX dX3_takenUpTo_44 rfl ?_
        refine gf_X3_30 rfl hX dX3_takenUpTo_45 ?_
        refine a_iload hX dX3_takenUpTo_48 rfl ?_
        refine a_ldc hX dX3_takenUpTo_50 co_X3_42 ?_
        refine a_callV [_, _] hX c_X6_addMonth mi_X6_addMonth mv_X6_addMonth se_X6_addMonth (klt rfl (by decide)) (adr_lt (kd_lt rfl (by decide))) (cell_6 rfl) rfl li_X3_95 (by decide) rfl rfl (Nat.le_of_ble_eq_true rfl) (fun q => q) dX3_takenUpTo_52 ⟨_, _, _, _, 100000, _, _, rfl, htf, hbw, hlc, by decide, hrc, ?_⟩
        intro w52 res hF52 ham
        refine a_pop hX dX3_takenUpTo_55 rfl ?_
        refine a_iinc (ls' := [_, _, _, _, _, _]) (nI (M + 1)) hX dX3_takenUpTo_56 rfl (nI_i1 M) rfl ?_
        refine a_goto 17 hX dX3_takenUpTo_59 (by decide) ?_
        refine ih (M + 1) _ _ (by omega) (by omega) (hf2.tr hF52) ?_
        rw [show 30 * (M + 1) = 30 * M + 30 by omega]
        unfold tlN
        rw [runT_add]
        rcases ham with ⟨-, h9, -⟩ | ⟨kk, hkk, -, -, hge, -⟩
        · exact h9
        · exfalso
          have h5 := tkN_le (ix (plF w q k 6)) (mtN (plF w q) k) (runT (ix (plF w q k 6)) (fun j => ctB (plF w q) hd be en k (30 * M + j) && decide (30 * M + j ≤ d)) (tlN (plF w q) k (fun x => ctB (plF w q) hd be en k x && decide (x ≤ d)) (30 * M)) (kk + 1)).2.1 (runT (ix (plF w q k 6)) (fun j => ctB (plF w q) hd be en k (30 * M + j) && decide (30 * M + j ≤ d)) (tlN (plF w q) k (fun x => ctB (plF w q) hd be en k x && decide (x ≤ d)) (30 * M)) (kk + 1)).2.2
          have h6 := runT_cnt_le (ev := ix (plF w q k 6)) (is := fun j => ctB (plF w q) hd be en k (30 * M + j) && decide (30 * M + j ≤ d)) (s0 := tlN (plF w q) k (fun x => ctB (plF w q) hd be en k x && decide (x ≤ d)) (30 * M)) (kk + 1)
          have h7 := htf.2.2.1
          have h8 := htf.2.2.2.2.1
          unfold rcN at hge
          omega
  exact L17 121 0 w11 none (by omega) (by omega) h11.1 (by
    have h9 := h11.2
    exact tlN_TF0 hv hk rfl h9.1 h9.2.1 h9.2.2.1 h9.2.2.2.1 h9.2.2.2.2.1 h9.2.2.2.2.2 _)
abbrev T_X3_fullDay : Tr := fun lay av w Po => ∃ (PP : Nat → Nat → Int32) (hd : Nat → Bool) (be en : Nat → Nat), av = [.ref (lay 210)] ∧ (RkS w PP hd be en) ∧ (∀ k, k < 12 → bdN (be k) ∧ bdN (en k)) ∧ Po (some (.int (nI (if maxF (stB PP) (fun i => en i + 1) 0 12 ≤ 3600 then maxF (stB PP) (fun i => en i + 1) 0 12 else 100000)))) w
set_option maxRecDepth 100000 in
set_option maxHeartbeats 4000000 in
theorem c_X3_fullDay : Ct yX3_fullDay cX3_fullDay 3 (some .int) 1 0 0 T_X3_fullDay := by
  refine Ct.mk (by decide +kernel) ?_
  intro X av w Po hX hR hT
  obtain ⟨PP, hd, be, en, rfl, hRk, hbd, h⟩ := hT
  refine ⟨rfl, ?_⟩
  show A X 0 0 0 [some (.ref (xlay X 210)), none, none] [] w
  refine a_iconst (0) hX dX3_fullDay_0 (by decide) ?_
  refine a_istore_n (ls' := [_, _, _]) hX dX3_fullDay_1 (Nat.le_of_ble_eq_true rfl) rfl ?_
  refine a_iconst (0) hX dX3_fullDay_2 (by decide) ?_
  refine a_istore_n (ls' := [_, _, _]) hX dX3_fullDay_3 (Nat.le_of_ble_eq_true rfl) rfl ?_
  have L4 : ∀ (fu : Nat) (i : Nat) (x : Int32), 12 - i < fu → (i ≤ 12) → (x = nI (maxF (stB PP) (fun i => en i + 1) 0 i)) → A X 0 0 4 [some (.ref (xlay X 210)), some (.int x), some (.int (nI i))] [] w := by
    intro fu
    induction fu with
    | zero => intro i x hmu; exact absurd hmu (Nat.not_lt_zero _)
    | succ fu ih =>
      intro i x hmu hi hx
      refine a_iload_n hX dX3_fullDay_4 rfl ?_
      refine a_bipush (12) hX dX3_fullDay_5 (by decide) ?_
      refine a_icmp_ge 40 hX dX3_fullDay_7 (by decide) (fun c_7 => ?_) (fun c_7 => ?_)
      · refine a_iload_n hX dX3_fullDay_40 rfl ?_
        refine a_sipush (3600) hX dX3_fullDay_41 (by decide) ?_
        refine a_icmp_gt 51 hX dX3_fullDay_44 (by decide) (fun c_44 => ?_) (fun c_44 => ?_)
        · refine a_ldc hX dX3_fullDay_51 co_X3_42 ?_
          refine a_iret hX hR dX3_fullDay_53 ⟨Nat.le_refl _, Nat.le_refl _⟩ rfl ?_
          have hi12 : i = 12 := by
            have := le_of_c (b := 12) c_7 (by omega) (by omega)
            omega
          subst hi12
          have hle := maxF_le (p := stB PP) (f := fun i => en i + 1) (x := 0) (B := 200000) (n := 12) (by omega) (fun j hj hp => by
            have := (hbd j hj).2
            unfold bdN at this
            omega)
          have hcc : 3600 < x ↔ ¬ maxF (stB PP) (fun i => en i + 1) 0 12 ≤ 3600 := by
            rw [hx]
            show nI 3600 < _ ↔ _
            rw [nI_ltI (by decide) (by omega)]
            omega
          exact po_int h (by
            first
            | rw [if_pos (Decidable.not_not.mp (fun q => c_44 (hcc.mpr q))), hx]
            | (rw [if_neg (hcc.mp c_44)]; rfl))
        · refine a_iload_n hX dX3_fullDay_47 rfl ?_
          refine a_goto 53 hX dX3_fullDay_48 (by decide) ?_
          refine a_iret hX hR dX3_fullDay_53 ⟨Nat.le_refl _, Nat.le_refl _⟩ rfl ?_
          have hi12 : i = 12 := by
            have := le_of_c (b := 12) c_7 (by omega) (by omega)
            omega
          subst hi12
          have hle := maxF_le (p := stB PP) (f := fun i => en i + 1) (x := 0) (B := 200000) (n := 12) (by omega) (fun j hj hp => by
            have := (hbd j hj).2
            unfold bdN at this
            omega)
          have hcc : 3600 < x ↔ ¬ maxF (stB PP) (fun i => en i + 1) 0 12 ≤ 3600 := by
            rw [hx]
            show nI 3600 < _ ↔ _
            rw [nI_ltI (by decide) (by omega)]
            omega
          exact po_int h (by
            first
            | rw [if_pos (Decidable.not_not.mp (fun q => c_44 (hcc.mpr q))), hx]
            | (rw [if_neg (hcc.mp c_44)]; rfl))
      · have hi12 : i < 12 := lt_of_c (b := 12) c_7 (by omega) (by omega)
        have hnm : nmP (w.1 210 6) (nI i) ↔ stB PP i = true := by
          rw [nm_bt (by omega), hRk.2.2 i (by omega)]
          simp [hi12]
        refine a_aload_n hX dX3_fullDay_10 rfl ?_
        refine gf_X3_34 rfl hX dX3_fullDay_11 ?_
        refine a_iload_n hX dX3_fullDay_14 rfl ?_
        refine a_callSN [_, _] hX c_X7_names mi_X7_names ms_X7_names ln_X3_55 (by decide) rfl rfl (Nat.le_of_ble_eq_true rfl) (fun q => q) dX3_fullDay_15 ⟨_, _, rfl, ?_⟩
        refine a_if_eq_b 34 hX dX3_fullDay_18 (by decide) (fun c_18 => ?_) (fun c_18 => ?_)
        · refine a_iinc (ls' := [_, _, _]) (nI (i + 1)) hX dX3_fullDay_34 rfl (nI_i1 i) rfl ?_
          refine a_goto 4 hX dX3_fullDay_37 (by decide) ?_
          exact ih (i + 1) _ (by omega) (by omega) (by
            first
            | exact mx_f (by
                have h9 := fun z => c_18 (hnm.mpr z)
                simpa using h9) hx
            | (have hdp := hnm.mp c_18
               refine mx_t hdp hx (by rw [(hRk.1 i hi12).2, nI_1]) ?_ ?_
               · exact Nat.lt_of_le_of_lt (maxF_le (B := 200000) (by omega) (fun j hj hp => by
                   have := (hbd j (by omega)).2
                   unfold bdN at this
                   omega)) (by decide)
               · have := (hbd i hi12).2
                 unfold bdN at this
                 omega))
        · refine a_iload_n hX dX3_fullDay_21 rfl ?_
          refine a_aload_n hX dX3_fullDay_22 rfl ?_
          refine gf_X3_15 rfl hX dX3_fullDay_23 ?_
          refine a_iload_n hX dX3_fullDay_26 rfl ?_
          refine a_iald (i) hX rfl rfl (show _ < 12 by omega) dX3_fullDay_27 ?_
          refine a_iconst (1) hX dX3_fullDay_28 (by decide) ?_
          refine a_iadd hX dX3_fullDay_29 ?_
          refine a_mmax hX (by decide) rfl (Nat.le_of_ble_eq_true rfl) dX3_fullDay_30 li_X3_105 ?_
          refine a_istore_n (ls' := [_, _, _]) hX dX3_fullDay_33 (Nat.le_of_ble_eq_true rfl) rfl ?_
          refine a_iinc (ls' := [_, _, _]) (nI (i + 1)) hX dX3_fullDay_34 rfl (nI_i1 i) rfl ?_
          refine a_goto 4 hX dX3_fullDay_37 (by decide) ?_
          exact ih (i + 1) _ (by omega) (by omega) (by
            first
            | exact mx_f (by
                have h9 := fun z => c_18 (hnm.mpr z)
                simpa using h9) hx
            | (have hdp := hnm.mp c_18
               refine mx_t hdp hx (by rw [(hRk.1 i hi12).2, nI_1]) ?_ ?_
               · exact Nat.lt_of_le_of_lt (maxF_le (B := 200000) (by omega) (fun j hj hp => by
                   have := (hbd j (by omega)).2
                   unfold bdN at this
                   omega)) (by decide)
               · have := (hbd i hi12).2
                 unfold bdN at this
                 omega))
  exact L4 13 0 _ (by omega) (by omega) rfl
