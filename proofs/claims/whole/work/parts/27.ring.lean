/-! Ring -/
theorem ntz_64 : ∀ a, a < 64 → ∀ b, b < 64 → 0 < 64 * a + b → ∃ j, j < 12 ∧ (64 * a + b).testBit j = true ∧ (∀ i, i < j → (64 * a + b).testBit i = false) ∧ (nI (64 * a + b) ^^^ (-1)) &&& (nI (64 * a + b) - 1) = nI (2 ^ j - 1) := by decide +kernel
theorem ntz_all (Z : Nat) (h : Z < 4096) (h0 : 0 < Z) : ∃ j, j < 12 ∧ Z.testBit j = true ∧ (∀ i, i < j → Z.testBit i = false) ∧ (nI Z ^^^ (-1)) &&& (nI Z - 1) = nI (2 ^ j - 1) := by
  have h9 := ntz_64 (Z / 64) (by omega) (Z % 64) (Nat.mod_lt _ (by decide))
  rw [show 64 * (Z / 64) + Z % 64 = Z by omega] at h9
  exact h9 h0
abbrev T_J6_numberOfTrailingZeros_0f7a4 : Tr := fun lay av w Po => ∃ (Z : Nat), av = [.int (nI Z)] ∧ Z < 4096 ∧ 0 < Z ∧ ∀ j, j < 12 → Z.testBit j = true → (∀ i, i < j → Z.testBit i = false) → Po (some (.int (nI j))) w
set_option maxRecDepth 100000 in
set_option maxHeartbeats 4000000 in
theorem c_J6_numberOfTrailingZeros_0f7a4 : Ct yJ6_numberOfTrailingZeros_0f7a4 cJ6_numberOfTrailingZeros_0f7a4 2 (some .int) 0 0 0 T_J6_numberOfTrailingZeros_0f7a4 := by
  refine Ct.mk (by decide +kernel) ?_
  intro X av w Po hX hR hT
  obtain ⟨Z, rfl, hZ, hZ0, h⟩ := hT
  refine ⟨rfl, ?_⟩
  show A X 0 0 0 [some (.int (nI Z)), none] [] w
  obtain ⟨j, hj, hb, hl, hv⟩ := ntz_all Z hZ hZ0
  refine a_iload_n hX dJ6_numberOfTrailingZeros_0f7a4_0 rfl ?_
  refine a_iconst (-1) hX dJ6_numberOfTrailingZeros_0f7a4_1 (by decide) ?_
  refine a_ixor hX dJ6_numberOfTrailingZeros_0f7a4_2 ?_
  refine a_iload_n hX dJ6_numberOfTrailingZeros_0f7a4_3 rfl ?_
  refine a_iconst (1) hX dJ6_numberOfTrailingZeros_0f7a4_4 (by decide) ?_
  refine a_isub hX dJ6_numberOfTrailingZeros_0f7a4_5 ?_
  refine a_iand hX dJ6_numberOfTrailingZeros_0f7a4_6 ?_
  rcases (by omega : j = 0 ∨ j = 1 ∨ j = 2 ∨ j = 3 ∨ j = 4 ∨ j = 5 ∨ j = 6 ∨ j = 7 ∨ j = 8 ∨ j = 9 ∨ j = 10 ∨ j = 11) with rfl | rfl | rfl | rfl | rfl | rfl | rfl | rfl | rfl | rfl | rfl | rfl
  · rw [hv]
    refine a_istore_n (ls' := [_, _]) hX dJ6_numberOfTrailingZeros_0f7a4_7 (Nat.le_of_ble_eq_true rfl) rfl ?_
    refine a_iload_n hX dJ6_numberOfTrailingZeros_0f7a4_8 rfl ?_
    refine a_if_gt 17 hX dJ6_numberOfTrailingZeros_0f7a4_9 (by decide) (fun z => absurd z (by decide)) (fun _ => ?_)
    refine a_iload_n hX dJ6_numberOfTrailingZeros_0f7a4_12 rfl ?_
    refine a_bipush (32) hX dJ6_numberOfTrailingZeros_0f7a4_13 (by decide) ?_
    refine a_iand hX dJ6_numberOfTrailingZeros_0f7a4_15 ?_
    refine a_iret hX hR dJ6_numberOfTrailingZeros_0f7a4_16 ⟨Nat.le_refl _, Nat.le_refl _⟩ rfl ?_
    exact po_int (h 0 (by decide) hb hl) (by decide)
  · rw [hv]
    refine a_istore_n (ls' := [_, _]) hX dJ6_numberOfTrailingZeros_0f7a4_7 (Nat.le_of_ble_eq_true rfl) rfl ?_
    refine a_iload_n hX dJ6_numberOfTrailingZeros_0f7a4_8 rfl ?_
    refine a_if_gt 17 hX dJ6_numberOfTrailingZeros_0f7a4_9 (by decide) (fun _ => ?_) (fun z => absurd (by decide) z)
    refine a_iconst (1) hX dJ6_numberOfTrailingZeros_0f7a4_17 (by decide) ?_
    refine a_istore_n (ls' := [_, _]) hX dJ6_numberOfTrailingZeros_0f7a4_18 (Nat.le_of_ble_eq_true rfl) rfl ?_
    refine a_iload_n hX dJ6_numberOfTrailingZeros_0f7a4_19 rfl ?_
    refine a_ldcw hX dJ6_numberOfTrailingZeros_0f7a4_20 co_J6_264 ?_
    refine a_icmp_le 34 hX dJ6_numberOfTrailingZeros_0f7a4_23 (by decide) (fun _ => ?_) (fun z => absurd (by decide) z)
    refine a_iload_n hX dJ6_numberOfTrailingZeros_0f7a4_34 rfl ?_
    refine a_sipush (256) hX dJ6_numberOfTrailingZeros_0f7a4_35 (by decide) ?_
    refine a_icmp_le 49 hX dJ6_numberOfTrailingZeros_0f7a4_38 (by decide) (fun _ => ?_) (fun z => absurd (by decide) z)
    refine a_iload_n hX dJ6_numberOfTrailingZeros_0f7a4_49 rfl ?_
    refine a_bipush (16) hX dJ6_numberOfTrailingZeros_0f7a4_50 (by decide) ?_
    refine a_icmp_le 62 hX dJ6_numberOfTrailingZeros_0f7a4_52 (by decide) (fun _ => ?_) (fun z => absurd (by decide) z)
    refine a_iload_n hX dJ6_numberOfTrailingZeros_0f7a4_62 rfl ?_
    refine a_iconst (4) hX dJ6_numberOfTrailingZeros_0f7a4_63 (by decide) ?_
    refine a_icmp_le 74 hX dJ6_numberOfTrailingZeros_0f7a4_64 (by decide) (fun _ => ?_) (fun z => absurd (by decide) z)
    refine a_iload_n hX dJ6_numberOfTrailingZeros_0f7a4_74 rfl ?_
    refine a_iload_n hX dJ6_numberOfTrailingZeros_0f7a4_75 rfl ?_
    refine a_iconst (1) hX dJ6_numberOfTrailingZeros_0f7a4_76 (by decide) ?_
    refine a_iushr hX dJ6_numberOfTrailingZeros_0f7a4_77 ?_
    refine a_iadd hX dJ6_numberOfTrailingZeros_0f7a4_78 ?_
    refine a_iret hX hR dJ6_numberOfTrailingZeros_0f7a4_79 ⟨Nat.le_refl _, Nat.le_refl _⟩ rfl ?_
    exact po_int (h 1 (by decide) hb hl) (by decide)
  · rw [hv]
    refine a_istore_n (ls' := [_, _]) hX dJ6_numberOfTrailingZeros_0f7a4_7 (Nat.le_of_ble_eq_true rfl) rfl ?_
    refine a_iload_n hX dJ6_numberOfTrailingZeros_0f7a4_8 rfl ?_
    refine a_if_gt 17 hX dJ6_numberOfTrailingZeros_0f7a4_9 (by decide) (fun _ => ?_) (fun z => absurd (by decide) z)
    refine a_iconst (1) hX dJ6_numberOfTrailingZeros_0f7a4_17 (by decide) ?_
    refine a_istore_n (ls' := [_, _]) hX dJ6_numberOfTrailingZeros_0f7a4_18 (Nat.le_of_ble_eq_true rfl) rfl ?_
    refine a_iload_n hX dJ6_numberOfTrailingZeros_0f7a4_19 rfl ?_
    refine a_ldcw hX dJ6_numberOfTrailingZeros_0f7a4_20 co_J6_264 ?_
    refine a_icmp_le 34 hX dJ6_numberOfTrailingZeros_0f7a4_23 (by decide) (fun _ => ?_) (fun z => absurd (by decide) z)
    refine a_iload_n hX dJ6_numberOfTrailingZeros_0f7a4_34 rfl ?_
    refine a_sipush (256) hX dJ6_numberOfTrailingZeros_0f7a4_35 (by decide) ?_
    refine a_icmp_le 49 hX dJ6_numberOfTrailingZeros_0f7a4_38 (by decide) (fun _ => ?_) (fun z => absurd (by decide) z)
    refine a_iload_n hX dJ6_numberOfTrailingZeros_0f7a4_49 rfl ?_
    refine a_bipush (16) hX dJ6_numberOfTrailingZeros_0f7a4_50 (by decide) ?_
    refine a_icmp_le 62 hX dJ6_numberOfTrailingZeros_0f7a4_52 (by decide) (fun _ => ?_) (fun z => absurd (by decide) z)
    refine a_iload_n hX dJ6_numberOfTrailingZeros_0f7a4_62 rfl ?_
    refine a_iconst (4) hX dJ6_numberOfTrailingZeros_0f7a4_63 (by decide) ?_
    refine a_icmp_le 74 hX dJ6_numberOfTrailingZeros_0f7a4_64 (by decide) (fun _ => ?_) (fun z => absurd (by decide) z)
    refine a_iload_n hX dJ6_numberOfTrailingZeros_0f7a4_74 rfl ?_
    refine a_iload_n hX dJ6_numberOfTrailingZeros_0f7a4_75 rfl ?_
    refine a_iconst (1) hX dJ6_numberOfTrailingZeros_0f7a4_76 (by decide) ?_
    refine a_iushr hX dJ6_numberOfTrailingZeros_0f7a4_77 ?_
    refine a_iadd hX dJ6_numberOfTrailingZeros_0f7a4_78 ?_
    refine a_iret hX hR dJ6_numberOfTrailingZeros_0f7a4_79 ⟨Nat.le_refl _, Nat.le_refl _⟩ rfl ?_
    exact po_int (h 2 (by decide) hb hl) (by decide)
  · rw [hv]
    refine a_istore_n (ls' := [_, _]) hX dJ6_numberOfTrailingZeros_0f7a4_7 (Nat.le_of_ble_eq_true rfl) rfl ?_
    refine a_iload_n hX dJ6_numberOfTrailingZeros_0f7a4_8 rfl ?_
    refine a_if_gt 17 hX dJ6_numberOfTrailingZeros_0f7a4_9 (by decide) (fun _ => ?_) (fun z => absurd (by decide) z)
    refine a_iconst (1) hX dJ6_numberOfTrailingZeros_0f7a4_17 (by decide) ?_
    refine a_istore_n (ls' := [_, _]) hX dJ6_numberOfTrailingZeros_0f7a4_18 (Nat.le_of_ble_eq_true rfl) rfl ?_
    refine a_iload_n hX dJ6_numberOfTrailingZeros_0f7a4_19 rfl ?_
    refine a_ldcw hX dJ6_numberOfTrailingZeros_0f7a4_20 co_J6_264 ?_
    refine a_icmp_le 34 hX dJ6_numberOfTrailingZeros_0f7a4_23 (by decide) (fun _ => ?_) (fun z => absurd (by decide) z)
    refine a_iload_n hX dJ6_numberOfTrailingZeros_0f7a4_34 rfl ?_
    refine a_sipush (256) hX dJ6_numberOfTrailingZeros_0f7a4_35 (by decide) ?_
    refine a_icmp_le 49 hX dJ6_numberOfTrailingZeros_0f7a4_38 (by decide) (fun _ => ?_) (fun z => absurd (by decide) z)
    refine a_iload_n hX dJ6_numberOfTrailingZeros_0f7a4_49 rfl ?_
    refine a_bipush (16) hX dJ6_numberOfTrailingZeros_0f7a4_50 (by decide) ?_
    refine a_icmp_le 62 hX dJ6_numberOfTrailingZeros_0f7a4_52 (by decide) (fun _ => ?_) (fun z => absurd (by decide) z)
    refine a_iload_n hX dJ6_numberOfTrailingZeros_0f7a4_62 rfl ?_
    refine a_iconst (4) hX dJ6_numberOfTrailingZeros_0f7a4_63 (by decide) ?_
    refine a_icmp_le 74 hX dJ6_numberOfTrailingZeros_0f7a4_64 (by decide) (fun z => absurd z (by decide)) (fun _ => ?_)
    refine a_iinc (ls' := [_, _]) (3) hX dJ6_numberOfTrailingZeros_0f7a4_67 rfl (by decide) rfl ?_
    refine a_iload_n hX dJ6_numberOfTrailingZeros_0f7a4_70 rfl ?_
    refine a_iconst (2) hX dJ6_numberOfTrailingZeros_0f7a4_71 (by decide) ?_
    refine a_iushr hX dJ6_numberOfTrailingZeros_0f7a4_72 ?_
    refine a_istore_n (ls' := [_, _]) hX dJ6_numberOfTrailingZeros_0f7a4_73 (Nat.le_of_ble_eq_true rfl) rfl ?_
    refine a_iload_n hX dJ6_numberOfTrailingZeros_0f7a4_74 rfl ?_
    refine a_iload_n hX dJ6_numberOfTrailingZeros_0f7a4_75 rfl ?_
    refine a_iconst (1) hX dJ6_numberOfTrailingZeros_0f7a4_76 (by decide) ?_
    refine a_iushr hX dJ6_numberOfTrailingZeros_0f7a4_77 ?_
    refine a_iadd hX dJ6_numberOfTrailingZeros_0f7a4_78 ?_
    refine a_iret hX hR dJ6_numberOfTrailingZeros_0f7a4_79 ⟨Nat.le_refl _, Nat.le_refl _⟩ rfl ?_
    exact po_int (h 3 (by decide) hb hl) (by decide)
  · rw [hv]
    refine a_istore_n (ls' := [_, _]) hX dJ6_numberOfTrailingZeros_0f7a4_7 (Nat.le_of_ble_eq_true rfl) rfl ?_
    refine a_iload_n hX dJ6_numberOfTrailingZeros_0f7a4_8 rfl ?_
    refine a_if_gt 17 hX dJ6_numberOfTrailingZeros_0f7a4_9 (by decide) (fun _ => ?_) (fun z => absurd (by decide) z)
    refine a_iconst (1) hX dJ6_numberOfTrailingZeros_0f7a4_17 (by decide) ?_
    refine a_istore_n (ls' := [_, _]) hX dJ6_numberOfTrailingZeros_0f7a4_18 (Nat.le_of_ble_eq_true rfl) rfl ?_
    refine a_iload_n hX dJ6_numberOfTrailingZeros_0f7a4_19 rfl ?_
    refine a_ldcw hX dJ6_numberOfTrailingZeros_0f7a4_20 co_J6_264 ?_
    refine a_icmp_le 34 hX dJ6_numberOfTrailingZeros_0f7a4_23 (by decide) (fun _ => ?_) (fun z => absurd (by decide) z)
    refine a_iload_n hX dJ6_numberOfTrailingZeros_0f7a4_34 rfl ?_
    refine a_sipush (256) hX dJ6_numberOfTrailingZeros_0f7a4_35 (by decide) ?_
    refine a_icmp_le 49 hX dJ6_numberOfTrailingZeros_0f7a4_38 (by decide) (fun _ => ?_) (fun z => absurd (by decide) z)
    refine a_iload_n hX dJ6_numberOfTrailingZeros_0f7a4_49 rfl ?_
    refine a_bipush (16) hX dJ6_numberOfTrailingZeros_0f7a4_50 (by decide) ?_
    refine a_icmp_le 62 hX dJ6_numberOfTrailingZeros_0f7a4_52 (by decide) (fun _ => ?_) (fun z => absurd (by decide) z)
    refine a_iload_n hX dJ6_numberOfTrailingZeros_0f7a4_62 rfl ?_
    refine a_iconst (4) hX dJ6_numberOfTrailingZeros_0f7a4_63 (by decide) ?_
    refine a_icmp_le 74 hX dJ6_numberOfTrailingZeros_0f7a4_64 (by decide) (fun z => absurd z (by decide)) (fun _ => ?_)
    refine a_iinc (ls' := [_, _]) (3) hX dJ6_numberOfTrailingZeros_0f7a4_67 rfl (by decide) rfl ?_
    refine a_iload_n hX dJ6_numberOfTrailingZeros_0f7a4_70 rfl ?_
    refine a_iconst (2) hX dJ6_numberOfTrailingZeros_0f7a4_71 (by decide) ?_
    refine a_iushr hX dJ6_numberOfTrailingZeros_0f7a4_72 ?_
    refine a_istore_n (ls' := [_, _]) hX dJ6_numberOfTrailingZeros_0f7a4_73 (Nat.le_of_ble_eq_true rfl) rfl ?_
    refine a_iload_n hX dJ6_numberOfTrailingZeros_0f7a4_74 rfl ?_
    refine a_iload_n hX dJ6_numberOfTrailingZeros_0f7a4_75 rfl ?_
    refine a_iconst (1) hX dJ6_numberOfTrailingZeros_0f7a4_76 (by decide) ?_
    refine a_iushr hX dJ6_numberOfTrailingZeros_0f7a4_77 ?_
    refine a_iadd hX dJ6_numberOfTrailingZeros_0f7a4_78 ?_
    refine a_iret hX hR dJ6_numberOfTrailingZeros_0f7a4_79 ⟨Nat.le_refl _, Nat.le_refl _⟩ rfl ?_
    exact po_int (h 4 (by decide) hb hl) (by decide)
  · rw [hv]
    refine a_istore_n (ls' := [_, _]) hX dJ6_numberOfTrailingZeros_0f7a4_7 (Nat.le_of_ble_eq_true rfl) rfl ?_
    refine a_iload_n hX dJ6_numberOfTrailingZeros_0f7a4_8 rfl ?_
    refine a_if_gt 17 hX dJ6_numberOfTrailingZeros_0f7a4_9 (by decide) (fun _ => ?_) (fun z => absurd (by decide) z)
    refine a_iconst (1) hX dJ6_numberOfTrailingZeros_0f7a4_17 (by decide) ?_
    refine a_istore_n (ls' := [_, _]) hX dJ6_numberOfTrailingZeros_0f7a4_18 (Nat.le_of_ble_eq_true rfl) rfl ?_
    refine a_iload_n hX dJ6_numberOfTrailingZeros_0f7a4_19 rfl ?_
    refine a_ldcw hX dJ6_numberOfTrailingZeros_0f7a4_20 co_J6_264 ?_
    refine a_icmp_le 34 hX dJ6_numberOfTrailingZeros_0f7a4_23 (by decide) (fun _ => ?_) (fun z => absurd (by decide) z)
    refine a_iload_n hX dJ6_numberOfTrailingZeros_0f7a4_34 rfl ?_
    refine a_sipush (256) hX dJ6_numberOfTrailingZeros_0f7a4_35 (by decide) ?_
    refine a_icmp_le 49 hX dJ6_numberOfTrailingZeros_0f7a4_38 (by decide) (fun _ => ?_) (fun z => absurd (by decide) z)
    refine a_iload_n hX dJ6_numberOfTrailingZeros_0f7a4_49 rfl ?_
    refine a_bipush (16) hX dJ6_numberOfTrailingZeros_0f7a4_50 (by decide) ?_
    refine a_icmp_le 62 hX dJ6_numberOfTrailingZeros_0f7a4_52 (by decide) (fun z => absurd z (by decide)) (fun _ => ?_)
    refine a_iinc (ls' := [_, _]) (5) hX dJ6_numberOfTrailingZeros_0f7a4_55 rfl (by decide) rfl ?_
    refine a_iload_n hX dJ6_numberOfTrailingZeros_0f7a4_58 rfl ?_
    refine a_iconst (4) hX dJ6_numberOfTrailingZeros_0f7a4_59 (by decide) ?_
    refine a_iushr hX dJ6_numberOfTrailingZeros_0f7a4_60 ?_
    refine a_istore_n (ls' := [_, _]) hX dJ6_numberOfTrailingZeros_0f7a4_61 (Nat.le_of_ble_eq_true rfl) rfl ?_
    refine a_iload_n hX dJ6_numberOfTrailingZeros_0f7a4_62 rfl ?_
    refine a_iconst (4) hX dJ6_numberOfTrailingZeros_0f7a4_63 (by decide) ?_
    refine a_icmp_le 74 hX dJ6_numberOfTrailingZeros_0f7a4_64 (by decide) (fun _ => ?_) (fun z => absurd (by decide) z)
    refine a_iload_n hX dJ6_numberOfTrailingZeros_0f7a4_74 rfl ?_
    refine a_iload_n hX dJ6_numberOfTrailingZeros_0f7a4_75 rfl ?_
    refine a_iconst (1) hX dJ6_numberOfTrailingZeros_0f7a4_76 (by decide) ?_
    refine a_iushr hX dJ6_numberOfTrailingZeros_0f7a4_77 ?_
    refine a_iadd hX dJ6_numberOfTrailingZeros_0f7a4_78 ?_
    refine a_iret hX hR dJ6_numberOfTrailingZeros_0f7a4_79 ⟨Nat.le_refl _, Nat.le_refl _⟩ rfl ?_
    exact po_int (h 5 (by decide) hb hl) (by decide)
  · rw [hv]
    refine a_istore_n (ls' := [_, _]) hX dJ6_numberOfTrailingZeros_0f7a4_7 (Nat.le_of_ble_eq_true rfl) rfl ?_
    refine a_iload_n hX dJ6_numberOfTrailingZeros_0f7a4_8 rfl ?_
    refine a_if_gt 17 hX dJ6_numberOfTrailingZeros_0f7a4_9 (by decide) (fun _ => ?_) (fun z => absurd (by decide) z)
    refine a_iconst (1) hX dJ6_numberOfTrailingZeros_0f7a4_17 (by decide) ?_
    refine a_istore_n (ls' := [_, _]) hX dJ6_numberOfTrailingZeros_0f7a4_18 (Nat.le_of_ble_eq_true rfl) rfl ?_
    refine a_iload_n hX dJ6_numberOfTrailingZeros_0f7a4_19 rfl ?_
    refine a_ldcw hX dJ6_numberOfTrailingZeros_0f7a4_20 co_J6_264 ?_
    refine a_icmp_le 34 hX dJ6_numberOfTrailingZeros_0f7a4_23 (by decide) (fun _ => ?_) (fun z => absurd (by decide) z)
    refine a_iload_n hX dJ6_numberOfTrailingZeros_0f7a4_34 rfl ?_
    refine a_sipush (256) hX dJ6_numberOfTrailingZeros_0f7a4_35 (by decide) ?_
    refine a_icmp_le 49 hX dJ6_numberOfTrailingZeros_0f7a4_38 (by decide) (fun _ => ?_) (fun z => absurd (by decide) z)
    refine a_iload_n hX dJ6_numberOfTrailingZeros_0f7a4_49 rfl ?_
    refine a_bipush (16) hX dJ6_numberOfTrailingZeros_0f7a4_50 (by decide) ?_
    refine a_icmp_le 62 hX dJ6_numberOfTrailingZeros_0f7a4_52 (by decide) (fun z => absurd z (by decide)) (fun _ => ?_)
    refine a_iinc (ls' := [_, _]) (5) hX dJ6_numberOfTrailingZeros_0f7a4_55 rfl (by decide) rfl ?_
    refine a_iload_n hX dJ6_numberOfTrailingZeros_0f7a4_58 rfl ?_
    refine a_iconst (4) hX dJ6_numberOfTrailingZeros_0f7a4_59 (by decide) ?_
    refine a_iushr hX dJ6_numberOfTrailingZeros_0f7a4_60 ?_
    refine a_istore_n (ls' := [_, _]) hX dJ6_numberOfTrailingZeros_0f7a4_61 (Nat.le_of_ble_eq_true rfl) rfl ?_
    refine a_iload_n hX dJ6_numberOfTrailingZeros_0f7a4_62 rfl ?_
    refine a_iconst (4) hX dJ6_numberOfTrailingZeros_0f7a4_63 (by decide) ?_
    refine a_icmp_le 74 hX dJ6_numberOfTrailingZeros_0f7a4_64 (by decide) (fun _ => ?_) (fun z => absurd (by decide) z)
    refine a_iload_n hX dJ6_numberOfTrailingZeros_0f7a4_74 rfl ?_
    refine a_iload_n hX dJ6_numberOfTrailingZeros_0f7a4_75 rfl ?_
    refine a_iconst (1) hX dJ6_numberOfTrailingZeros_0f7a4_76 (by decide) ?_
    refine a_iushr hX dJ6_numberOfTrailingZeros_0f7a4_77 ?_
    refine a_iadd hX dJ6_numberOfTrailingZeros_0f7a4_78 ?_
    refine a_iret hX hR dJ6_numberOfTrailingZeros_0f7a4_79 ⟨Nat.le_refl _, Nat.le_refl _⟩ rfl ?_
    exact po_int (h 6 (by decide) hb hl) (by decide)
  · rw [hv]
    refine a_istore_n (ls' := [_, _]) hX dJ6_numberOfTrailingZeros_0f7a4_7 (Nat.le_of_ble_eq_true rfl) rfl ?_
    refine a_iload_n hX dJ6_numberOfTrailingZeros_0f7a4_8 rfl ?_
    refine a_if_gt 17 hX dJ6_numberOfTrailingZeros_0f7a4_9 (by decide) (fun _ => ?_) (fun z => absurd (by decide) z)
    refine a_iconst (1) hX dJ6_numberOfTrailingZeros_0f7a4_17 (by decide) ?_
    refine a_istore_n (ls' := [_, _]) hX dJ6_numberOfTrailingZeros_0f7a4_18 (Nat.le_of_ble_eq_true rfl) rfl ?_
    refine a_iload_n hX dJ6_numberOfTrailingZeros_0f7a4_19 rfl ?_
    refine a_ldcw hX dJ6_numberOfTrailingZeros_0f7a4_20 co_J6_264 ?_
    refine a_icmp_le 34 hX dJ6_numberOfTrailingZeros_0f7a4_23 (by decide) (fun _ => ?_) (fun z => absurd (by decide) z)
    refine a_iload_n hX dJ6_numberOfTrailingZeros_0f7a4_34 rfl ?_
    refine a_sipush (256) hX dJ6_numberOfTrailingZeros_0f7a4_35 (by decide) ?_
    refine a_icmp_le 49 hX dJ6_numberOfTrailingZeros_0f7a4_38 (by decide) (fun _ => ?_) (fun z => absurd (by decide) z)
    refine a_iload_n hX dJ6_numberOfTrailingZeros_0f7a4_49 rfl ?_
    refine a_bipush (16) hX dJ6_numberOfTrailingZeros_0f7a4_50 (by decide) ?_
    refine a_icmp_le 62 hX dJ6_numberOfTrailingZeros_0f7a4_52 (by decide) (fun z => absurd z (by decide)) (fun _ => ?_)
    refine a_iinc (ls' := [_, _]) (5) hX dJ6_numberOfTrailingZeros_0f7a4_55 rfl (by decide) rfl ?_
    refine a_iload_n hX dJ6_numberOfTrailingZeros_0f7a4_58 rfl ?_
    refine a_iconst (4) hX dJ6_numberOfTrailingZeros_0f7a4_59 (by decide) ?_
    refine a_iushr hX dJ6_numberOfTrailingZeros_0f7a4_60 ?_
    refine a_istore_n (ls' := [_, _]) hX dJ6_numberOfTrailingZeros_0f7a4_61 (Nat.le_of_ble_eq_true rfl) rfl ?_
    refine a_iload_n hX dJ6_numberOfTrailingZeros_0f7a4_62 rfl ?_
    refine a_iconst (4) hX dJ6_numberOfTrailingZeros_0f7a4_63 (by decide) ?_
    refine a_icmp_le 74 hX dJ6_numberOfTrailingZeros_0f7a4_64 (by decide) (fun z => absurd z (by decide)) (fun _ => ?_)
    refine a_iinc (ls' := [_, _]) (7) hX dJ6_numberOfTrailingZeros_0f7a4_67 rfl (by decide) rfl ?_
    refine a_iload_n hX dJ6_numberOfTrailingZeros_0f7a4_70 rfl ?_
    refine a_iconst (2) hX dJ6_numberOfTrailingZeros_0f7a4_71 (by decide) ?_
    refine a_iushr hX dJ6_numberOfTrailingZeros_0f7a4_72 ?_
    refine a_istore_n (ls' := [_, _]) hX dJ6_numberOfTrailingZeros_0f7a4_73 (Nat.le_of_ble_eq_true rfl) rfl ?_
    refine a_iload_n hX dJ6_numberOfTrailingZeros_0f7a4_74 rfl ?_
    refine a_iload_n hX dJ6_numberOfTrailingZeros_0f7a4_75 rfl ?_
    refine a_iconst (1) hX dJ6_numberOfTrailingZeros_0f7a4_76 (by decide) ?_
    refine a_iushr hX dJ6_numberOfTrailingZeros_0f7a4_77 ?_
    refine a_iadd hX dJ6_numberOfTrailingZeros_0f7a4_78 ?_
    refine a_iret hX hR dJ6_numberOfTrailingZeros_0f7a4_79 ⟨Nat.le_refl _, Nat.le_refl _⟩ rfl ?_
    exact po_int (h 7 (by decide) hb hl) (by decide)
  · rw [hv]
    refine a_istore_n (ls' := [_, _]) hX dJ6_numberOfTrailingZeros_0f7a4_7 (Nat.le_of_ble_eq_true rfl) rfl ?_
    refine a_iload_n hX dJ6_numberOfTrailingZeros_0f7a4_8 rfl ?_
    refine a_if_gt 17 hX dJ6_numberOfTrailingZeros_0f7a4_9 (by decide) (fun _ => ?_) (fun z => absurd (by decide) z)
    refine a_iconst (1) hX dJ6_numberOfTrailingZeros_0f7a4_17 (by decide) ?_
    refine a_istore_n (ls' := [_, _]) hX dJ6_numberOfTrailingZeros_0f7a4_18 (Nat.le_of_ble_eq_true rfl) rfl ?_
    refine a_iload_n hX dJ6_numberOfTrailingZeros_0f7a4_19 rfl ?_
    refine a_ldcw hX dJ6_numberOfTrailingZeros_0f7a4_20 co_J6_264 ?_
    refine a_icmp_le 34 hX dJ6_numberOfTrailingZeros_0f7a4_23 (by decide) (fun _ => ?_) (fun z => absurd (by decide) z)
    refine a_iload_n hX dJ6_numberOfTrailingZeros_0f7a4_34 rfl ?_
    refine a_sipush (256) hX dJ6_numberOfTrailingZeros_0f7a4_35 (by decide) ?_
    refine a_icmp_le 49 hX dJ6_numberOfTrailingZeros_0f7a4_38 (by decide) (fun _ => ?_) (fun z => absurd (by decide) z)
    refine a_iload_n hX dJ6_numberOfTrailingZeros_0f7a4_49 rfl ?_
    refine a_bipush (16) hX dJ6_numberOfTrailingZeros_0f7a4_50 (by decide) ?_
    refine a_icmp_le 62 hX dJ6_numberOfTrailingZeros_0f7a4_52 (by decide) (fun z => absurd z (by decide)) (fun _ => ?_)
    refine a_iinc (ls' := [_, _]) (5) hX dJ6_numberOfTrailingZeros_0f7a4_55 rfl (by decide) rfl ?_
    refine a_iload_n hX dJ6_numberOfTrailingZeros_0f7a4_58 rfl ?_
    refine a_iconst (4) hX dJ6_numberOfTrailingZeros_0f7a4_59 (by decide) ?_
    refine a_iushr hX dJ6_numberOfTrailingZeros_0f7a4_60 ?_
    refine a_istore_n (ls' := [_, _]) hX dJ6_numberOfTrailingZeros_0f7a4_61 (Nat.le_of_ble_eq_true rfl) rfl ?_
    refine a_iload_n hX dJ6_numberOfTrailingZeros_0f7a4_62 rfl ?_
    refine a_iconst (4) hX dJ6_numberOfTrailingZeros_0f7a4_63 (by decide) ?_
    refine a_icmp_le 74 hX dJ6_numberOfTrailingZeros_0f7a4_64 (by decide) (fun z => absurd z (by decide)) (fun _ => ?_)
    refine a_iinc (ls' := [_, _]) (7) hX dJ6_numberOfTrailingZeros_0f7a4_67 rfl (by decide) rfl ?_
    refine a_iload_n hX dJ6_numberOfTrailingZeros_0f7a4_70 rfl ?_
    refine a_iconst (2) hX dJ6_numberOfTrailingZeros_0f7a4_71 (by decide) ?_
    refine a_iushr hX dJ6_numberOfTrailingZeros_0f7a4_72 ?_
    refine a_istore_n (ls' := [_, _]) hX dJ6_numberOfTrailingZeros_0f7a4_73 (Nat.le_of_ble_eq_true rfl) rfl ?_
    refine a_iload_n hX dJ6_numberOfTrailingZeros_0f7a4_74 rfl ?_
    refine a_iload_n hX dJ6_numberOfTrailingZeros_0f7a4_75 rfl ?_
    refine a_iconst (1) hX dJ6_numberOfTrailingZeros_0f7a4_76 (by decide) ?_
    refine a_iushr hX dJ6_numberOfTrailingZeros_0f7a4_77 ?_
    refine a_iadd hX dJ6_numberOfTrailingZeros_0f7a4_78 ?_
    refine a_iret hX hR dJ6_numberOfTrailingZeros_0f7a4_79 ⟨Nat.le_refl _, Nat.le_refl _⟩ rfl ?_
    exact po_int (h 8 (by decide) hb hl) (by decide)
  · rw [hv]
    refine a_istore_n (ls' := [_, _]) hX dJ6_numberOfTrailingZeros_0f7a4_7 (Nat.le_of_ble_eq_true rfl) rfl ?_
    refine a_iload_n hX dJ6_numberOfTrailingZeros_0f7a4_8 rfl ?_
    refine a_if_gt 17 hX dJ6_numberOfTrailingZeros_0f7a4_9 (by decide) (fun _ => ?_) (fun z => absurd (by decide) z)
    refine a_iconst (1) hX dJ6_numberOfTrailingZeros_0f7a4_17 (by decide) ?_
    refine a_istore_n (ls' := [_, _]) hX dJ6_numberOfTrailingZeros_0f7a4_18 (Nat.le_of_ble_eq_true rfl) rfl ?_
    refine a_iload_n hX dJ6_numberOfTrailingZeros_0f7a4_19 rfl ?_
    refine a_ldcw hX dJ6_numberOfTrailingZeros_0f7a4_20 co_J6_264 ?_
    refine a_icmp_le 34 hX dJ6_numberOfTrailingZeros_0f7a4_23 (by decide) (fun _ => ?_) (fun z => absurd (by decide) z)
    refine a_iload_n hX dJ6_numberOfTrailingZeros_0f7a4_34 rfl ?_
    refine a_sipush (256) hX dJ6_numberOfTrailingZeros_0f7a4_35 (by decide) ?_
    refine a_icmp_le 49 hX dJ6_numberOfTrailingZeros_0f7a4_38 (by decide) (fun z => absurd z (by decide)) (fun _ => ?_)
    refine a_iinc (ls' := [_, _]) (9) hX dJ6_numberOfTrailingZeros_0f7a4_41 rfl (by decide) rfl ?_
    refine a_iload_n hX dJ6_numberOfTrailingZeros_0f7a4_44 rfl ?_
    refine a_bipush (8) hX dJ6_numberOfTrailingZeros_0f7a4_45 (by decide) ?_
    refine a_iushr hX dJ6_numberOfTrailingZeros_0f7a4_47 ?_
    refine a_istore_n (ls' := [_, _]) hX dJ6_numberOfTrailingZeros_0f7a4_48 (Nat.le_of_ble_eq_true rfl) rfl ?_
    refine a_iload_n hX dJ6_numberOfTrailingZeros_0f7a4_49 rfl ?_
    refine a_bipush (16) hX dJ6_numberOfTrailingZeros_0f7a4_50 (by decide) ?_
    refine a_icmp_le 62 hX dJ6_numberOfTrailingZeros_0f7a4_52 (by decide) (fun _ => ?_) (fun z => absurd (by decide) z)
    refine a_iload_n hX dJ6_numberOfTrailingZeros_0f7a4_62 rfl ?_
    refine a_iconst (4) hX dJ6_numberOfTrailingZeros_0f7a4_63 (by decide) ?_
    refine a_icmp_le 74 hX dJ6_numberOfTrailingZeros_0f7a4_64 (by decide) (fun _ => ?_) (fun z => absurd (by decide) z)
    refine a_iload_n hX dJ6_numberOfTrailingZeros_0f7a4_74 rfl ?_
    refine a_iload_n hX dJ6_numberOfTrailingZeros_0f7a4_75 rfl ?_
    refine a_iconst (1) hX dJ6_numberOfTrailingZeros_0f7a4_76 (by decide) ?_
    refine a_iushr hX dJ6_numberOfTrailingZeros_0f7a4_77 ?_
    refine a_iadd hX dJ6_numberOfTrailingZeros_0f7a4_78 ?_
    refine a_iret hX hR dJ6_numberOfTrailingZeros_0f7a4_79 ⟨Nat.le_refl _, Nat.le_refl _⟩ rfl ?_
    exact po_int (h 9 (by decide) hb hl) (by decide)
  · rw [hv]
    refine a_istore_n (ls' := [_, _]) hX dJ6_numberOfTrailingZeros_0f7a4_7 (Nat.le_of_ble_eq_true rfl) rfl ?_
    refine a_iload_n hX dJ6_numberOfTrailingZeros_0f7a4_8 rfl ?_
    refine a_if_gt 17 hX dJ6_numberOfTrailingZeros_0f7a4_9 (by decide) (fun _ => ?_) (fun z => absurd (by decide) z)
    refine a_iconst (1) hX dJ6_numberOfTrailingZeros_0f7a4_17 (by decide) ?_
    refine a_istore_n (ls' := [_, _]) hX dJ6_numberOfTrailingZeros_0f7a4_18 (Nat.le_of_ble_eq_true rfl) rfl ?_
    refine a_iload_n hX dJ6_numberOfTrailingZeros_0f7a4_19 rfl ?_
    refine a_ldcw hX dJ6_numberOfTrailingZeros_0f7a4_20 co_J6_264 ?_
    refine a_icmp_le 34 hX dJ6_numberOfTrailingZeros_0f7a4_23 (by decide) (fun _ => ?_) (fun z => absurd (by decide) z)
    refine a_iload_n hX dJ6_numberOfTrailingZeros_0f7a4_34 rfl ?_
    refine a_sipush (256) hX dJ6_numberOfTrailingZeros_0f7a4_35 (by decide) ?_
    refine a_icmp_le 49 hX dJ6_numberOfTrailingZeros_0f7a4_38 (by decide) (fun z => absurd z (by decide)) (fun _ => ?_)
    refine a_iinc (ls' := [_, _]) (9) hX dJ6_numberOfTrailingZeros_0f7a4_41 rfl (by decide) rfl ?_
    refine a_iload_n hX dJ6_numberOfTrailingZeros_0f7a4_44 rfl ?_
    refine a_bipush (8) hX dJ6_numberOfTrailingZeros_0f7a4_45 (by decide) ?_
    refine a_iushr hX dJ6_numberOfTrailingZeros_0f7a4_47 ?_
    refine a_istore_n (ls' := [_, _]) hX dJ6_numberOfTrailingZeros_0f7a4_48 (Nat.le_of_ble_eq_true rfl) rfl ?_
    refine a_iload_n hX dJ6_numberOfTrailingZeros_0f7a4_49 rfl ?_
    refine a_bipush (16) hX dJ6_numberOfTrailingZeros_0f7a4_50 (by decide) ?_
    refine a_icmp_le 62 hX dJ6_numberOfTrailingZeros_0f7a4_52 (by decide) (fun _ => ?_) (fun z => absurd (by decide) z)
    refine a_iload_n hX dJ6_numberOfTrailingZeros_0f7a4_62 rfl ?_
    refine a_iconst (4) hX dJ6_numberOfTrailingZeros_0f7a4_63 (by decide) ?_
    refine a_icmp_le 74 hX dJ6_numberOfTrailingZeros_0f7a4_64 (by decide) (fun _ => ?_) (fun z => absurd (by decide) z)
    refine a_iload_n hX dJ6_numberOfTrailingZeros_0f7a4_74 rfl ?_
    refine a_iload_n hX dJ6_numberOfTrailingZeros_0f7a4_75 rfl ?_
    refine a_iconst (1) hX dJ6_numberOfTrailingZeros_0f7a4_76 (by decide) ?_
    refine a_iushr hX dJ6_numberOfTrailingZeros_0f7a4_77 ?_
    refine a_iadd hX dJ6_numberOfTrailingZeros_0f7a4_78 ?_
    refine a_iret hX hR dJ6_numberOfTrailingZeros_0f7a4_79 ⟨Nat.le_refl _, Nat.le_refl _⟩ rfl ?_
    exact po_int (h 10 (by decide) hb hl) (by decide)
  · rw [hv]
    refine a_istore_n (ls' := [_, _]) hX dJ6_numberOfTrailingZeros_0f7a4_7 (Nat.le_of_ble_eq_true rfl) rfl ?_
    refine a_iload_n hX dJ6_numberOfTrailingZeros_0f7a4_8 rfl ?_
    refine a_if_gt 17 hX dJ6_numberOfTrailingZeros_0f7a4_9 (by decide) (fun _ => ?_) (fun z => absurd (by decide) z)
    refine a_iconst (1) hX dJ6_numberOfTrailingZeros_0f7a4_17 (by decide) ?_
    refine a_istore_n (ls' := [_, _]) hX dJ6_numberOfTrailingZeros_0f7a4_18 (Nat.le_of_ble_eq_true rfl) rfl ?_
    refine a_iload_n hX dJ6_numberOfTrailingZeros_0f7a4_19 rfl ?_
    refine a_ldcw hX dJ6_numberOfTrailingZeros_0f7a4_20 co_J6_264 ?_
    refine a_icmp_le 34 hX dJ6_numberOfTrailingZeros_0f7a4_23 (by decide) (fun _ => ?_) (fun z => absurd (by decide) z)
    refine a_iload_n hX dJ6_numberOfTrailingZeros_0f7a4_34 rfl ?_
    refine a_sipush (256) hX dJ6_numberOfTrailingZeros_0f7a4_35 (by decide) ?_
    refine a_icmp_le 49 hX dJ6_numberOfTrailingZeros_0f7a4_38 (by decide) (fun z => absurd z (by decide)) (fun _ => ?_)
    refine a_iinc (ls' := [_, _]) (9) hX dJ6_numberOfTrailingZeros_0f7a4_41 rfl (by decide) rfl ?_
    refine a_iload_n hX dJ6_numberOfTrailingZeros_0f7a4_44 rfl ?_
    refine a_bipush (8) hX dJ6_numberOfTrailingZeros_0f7a4_45 (by decide) ?_
    refine a_iushr hX dJ6_numberOfTrailingZeros_0f7a4_47 ?_
    refine a_istore_n (ls' := [_, _]) hX dJ6_numberOfTrailingZeros_0f7a4_48 (Nat.le_of_ble_eq_true rfl) rfl ?_
    refine a_iload_n hX dJ6_numberOfTrailingZeros_0f7a4_49 rfl ?_
    refine a_bipush (16) hX dJ6_numberOfTrailingZeros_0f7a4_50 (by decide) ?_
    refine a_icmp_le 62 hX dJ6_numberOfTrailingZeros_0f7a4_52 (by decide) (fun _ => ?_) (fun z => absurd (by decide) z)
    refine a_iload_n hX dJ6_numberOfTrailingZeros_0f7a4_62 rfl ?_
    refine a_iconst (4) hX dJ6_numberOfTrailingZeros_0f7a4_63 (by decide) ?_
    refine a_icmp_le 74 hX dJ6_numberOfTrailingZeros_0f7a4_64 (by decide) (fun z => absurd z (by decide)) (fun _ => ?_)
    refine a_iinc (ls' := [_, _]) (11) hX dJ6_numberOfTrailingZeros_0f7a4_67 rfl (by decide) rfl ?_
    refine a_iload_n hX dJ6_numberOfTrailingZeros_0f7a4_70 rfl ?_
    refine a_iconst (2) hX dJ6_numberOfTrailingZeros_0f7a4_71 (by decide) ?_
    refine a_iushr hX dJ6_numberOfTrailingZeros_0f7a4_72 ?_
    refine a_istore_n (ls' := [_, _]) hX dJ6_numberOfTrailingZeros_0f7a4_73 (Nat.le_of_ble_eq_true rfl) rfl ?_
    refine a_iload_n hX dJ6_numberOfTrailingZeros_0f7a4_74 rfl ?_
    refine a_iload_n hX dJ6_numberOfTrailingZeros_0f7a4_75 rfl ?_
    refine a_iconst (1) hX dJ6_numberOfTrailingZeros_0f7a4_76 (by decide) ?_
    refine a_iushr hX dJ6_numberOfTrailingZeros_0f7a4_77 ?_
    refine a_iadd hX dJ6_numberOfTrailingZeros_0f7a4_78 ?_
    refine a_iret hX hR dJ6_numberOfTrailingZeros_0f7a4_79 ⟨Nat.le_refl _, Nat.le_refl _⟩ rfl ?_
    exact po_int (h 11 (by decide) hb hl) (by decide)
abbrev T_X5_placeAt : Tr := fun lay av w Po => ∃ (a : Int32), av = [.ref (lay 217), .int a] ∧ Po (some (.int (if 0 ≤ a ∧ a < w.1 217 1 ∧ a < 12 then w.1 218 (ix a) else -1))) w
set_option maxRecDepth 100000 in
set_option maxHeartbeats 4000000 in
theorem c_X5_placeAt : Ct yX5_placeAt cX5_placeAt 2 (some .int) 0 0 0 T_X5_placeAt := by
  refine Ct.mk (by decide +kernel) ?_
  intro X av w Po hX hR hT
  obtain ⟨a, rfl, h⟩ := hT
  refine ⟨rfl, ?_⟩
  show A X 0 0 0 [some (.ref (xlay X 217)), some (.int a)] [] w
  refine a_iload_n hX dX5_placeAt_0 rfl ?_
  refine a_if_lt 27 hX dX5_placeAt_1 (by decide) (fun c_1 => ?_) (fun c_1 => ?_)
  · refine a_iconst (-1) hX dX5_placeAt_27 (by decide) ?_
    refine a_iret hX hR dX5_placeAt_28 ⟨Nat.le_refl _, Nat.le_refl _⟩ rfl ?_
    exact po_int h (by
      first
      | (rw [if_pos ⟨le_nlt c_1, lt_nle c_9, lt_nle c_15⟩, ix_nI (by omega)])
      | (rw [if_neg]; grind))
  · refine a_iload_n hX dX5_placeAt_4 rfl ?_
    refine a_aload_n hX dX5_placeAt_5 rfl ?_
    refine gf_X5_15 rfl hX dX5_placeAt_6 ?_
    refine a_icmp_ge 27 hX dX5_placeAt_9 (by decide) (fun c_9 => ?_) (fun c_9 => ?_)
    · refine a_iconst (-1) hX dX5_placeAt_27 (by decide) ?_
      refine a_iret hX hR dX5_placeAt_28 ⟨Nat.le_refl _, Nat.le_refl _⟩ rfl ?_
      exact po_int h (by
        first
        | (rw [if_pos ⟨le_nlt c_1, lt_nle c_9, lt_nle c_15⟩, ix_nI (by omega)])
        | (rw [if_neg]; grind))
    · refine a_iload_n hX dX5_placeAt_12 rfl ?_
      refine a_bipush (12) hX dX5_placeAt_13 (by decide) ?_
      refine a_icmp_ge 27 hX dX5_placeAt_15 (by decide) (fun c_15 => ?_) (fun c_15 => ?_)
      · refine a_iconst (-1) hX dX5_placeAt_27 (by decide) ?_
        refine a_iret hX hR dX5_placeAt_28 ⟨Nat.le_refl _, Nat.le_refl _⟩ rfl ?_
        exact po_int h (by
          first
          | (rw [if_pos ⟨le_nlt c_1, lt_nle c_9, lt_nle c_15⟩, ix_nI (by omega)])
          | (rw [if_neg]; grind))
      · obtain ⟨j, hj, rfl⟩ := rng_ex (n := 12) (by decide) ⟨le_nlt c_1, lt_nle c_15⟩
        refine a_aload_n hX dX5_placeAt_18 rfl ?_
        refine gf_X5_9 rfl hX dX5_placeAt_19 ?_
        refine a_iload_n hX dX5_placeAt_22 rfl ?_
        refine a_iald j hX rfl rfl (show j < 12 from hj) dX5_placeAt_23 ?_
        refine a_goto 28 hX dX5_placeAt_24 (by decide) ?_
        refine a_iret hX hR dX5_placeAt_28 ⟨Nat.le_refl _, Nat.le_refl _⟩ rfl ?_
        exact po_int h (by
          first
          | (rw [if_pos ⟨le_nlt c_1, lt_nle c_9, lt_nle c_15⟩, ix_nI (by omega)])
          | (rw [if_neg]; grind))
abbrev T_X5_findNext : Tr := fun lay av w Po => ∃ (q p : Nat) (s : Int32), av = [.ref (lay 217), .ref (lay q), .int (nI p), .int s] ∧ (kd q = 1) ∧ (p < 12) ∧ ∀ w' : St, Fr w w' (fun z => z = 219) → (∀ k, k < 12 → w'.1 219 k = if k = p then s else if 2 ≤ w.1 (q + 1 + 4 + k) 0 ∧ w.1 (q + 1 + 4 + k) 0 ≤ 5 then w.1 (q + 1 + 4 + k) 4 else 0) → Po none w'
set_option maxRecDepth 100000 in
set_option maxHeartbeats 4000000 in
theorem c_X5_findNext : Ct yX5_findNext cX5_findNext 6 none 2 0 0 T_X5_findNext := by
  refine Ct.mk (by decide +kernel) ?_
  intro X av w Po hX hR hT
  obtain ⟨q, p, s, rfl, hq, hp, h⟩ := hT
  refine ⟨rfl, ?_⟩
  show A X 0 0 0 [some (.ref (xlay X 217)), some (.ref (xlay X q)), some (.int (nI p)), some (.int s), none, none] [] w
  refine a_iconst (0) hX dX5_findNext_0 (by decide) ?_
  refine a_istore (ls' := [_, _, _, _, _, _]) hX dX5_findNext_1 (Nat.le_of_ble_eq_true rfl) rfl ?_
  have L3 : ∀ (fu : Nat) (i : Nat) (w2 : St) (y : Option Value), 12 - i < fu → (i ≤ 12) → (Fr w w2 (fun z => z = 219)) → (∀ k, k < i → w2.1 219 k = if 2 ≤ w.1 (q + 1 + 4 + k) 0 ∧ w.1 (q + 1 + 4 + k) 0 ≤ 5 then w.1 (q + 1 + 4 + k) 4 else 0) → A X 0 0 3 [some (.ref (xlay X 217)), some (.ref (xlay X q)), some (.int (nI p)), some (.int s), some (.int (nI i)), y] [] w2 := by
    intro fu
    induction fu with
    | zero => intro i w2 y hmu; exact absurd hmu (Nat.not_lt_zero _)
    | succ fu ih =>
      intro i w2 y hmu hi hf2 hv
      refine a_iload hX dX5_findNext_3 rfl ?_
      refine a_bipush (12) hX dX5_findNext_5 (by decide) ?_
      refine a_icmp_ge 53 hX dX5_findNext_7 (by decide) (fun c_7 => ?_) (fun c_7 => ?_)
      · refine a_aload_n hX dX5_findNext_53 rfl ?_
        refine gf_X5_19 rfl hX dX5_findNext_54 ?_
        refine a_iload_n hX dX5_findNext_57 rfl ?_
        refine a_iload_n hX dX5_findNext_58 rfl ?_
        refine a_iast p hX rfl rfl (show p < 12 from hp) dX5_findNext_59 ?_
        refine a_vret hX hR dX5_findNext_60 ⟨Nat.le_refl _, Nat.le_refl _⟩ ?_
        have hi12 : i = 12 := by
          have := le_of_c (b := 12) c_7 (by omega) (by omega)
          omega
        subst hi12
        refine h _ (Fr.set hf2 rfl) (fun k hk => ?_)
        rw [wset_1]
        by_cases e : k = p
        · subst e; simp
        · simp [e]; exact hv k hk
      · have hi12 : i < 12 := lt_of_c (b := 12) c_7 (by omega) (by omega)
        have er : w2.1 (q + 1 + 4 + i) = w.1 (q + 1 + 4 + i) := hf2.2 _ (by have := kd1_208 hq; omega)
        refine a_aload_n hX dX5_findNext_10 rfl ?_
        refine a_iload hX dX5_findNext_11 rfl ?_
        refine a_callV [_] hX c_X1_at mi_X1_at mv_X1_at se_X1_at (klt hq (by decide)) (adr_lt (kd_lt hq (by decide))) (cell_1 hq) rfl li_X5_48 (by decide) rfl rfl (Nat.le_of_ble_eq_true rfl) (fun q => q) dX5_findNext_13 ⟨_, _, rfl, hq, Or.inl ⟨i, hi12, rfl, ?_⟩⟩
        refine a_astore (ls' := [_, _, _, _, _, _]) hX dX5_findNext_16 (Nat.le_of_ble_eq_true rfl) rfl ?_
        refine a_aload_n hX dX5_findNext_18 rfl ?_
        refine gf_X5_19 rfl hX dX5_findNext_19 ?_
        refine a_iload hX dX5_findNext_22 rfl ?_
        refine a_aload hX dX5_findNext_24 rfl ?_
        refine a_ifnull hX dX5_findNext_26 ?_
        refine a_aload hX dX5_findNext_29 rfl ?_
        refine a_callV [] hX c_X2_runs mi_X2_runs mv_X2_runs se_X2_runs (klt (K1_p hq hi12) (by decide)) (adr_lt (kd_lt (K1_p hq hi12) (by decide))) (cell_2 (K1_p hq hi12)) rfl li_X5_54 (by decide) rfl rfl (Nat.le_of_ble_eq_true rfl) (fun q => q) dX5_findNext_31 ⟨_, rfl, (K1_p hq hi12), ?_⟩
        refine a_if_eq_b 45 hX dX5_findNext_34 (by decide) (fun c_34 => ?_) (fun c_34 => ?_)
        · refine a_iconst (0) hX dX5_findNext_45 (by decide) ?_
          refine a_iast i hX rfl rfl (show i < 12 from hi12) dX5_findNext_46 ?_
          refine a_iinc (ls' := [_, _, _, _, _, _]) (nI (i + 1)) hX dX5_findNext_47 rfl (nI_i1 i) rfl ?_
          refine a_goto 3 hX dX5_findNext_50 (by decide) ?_
          refine ih (i + 1) _ _ (by omega) (by omega) (Fr.set hf2 rfl) (fun k hk => ?_)
          rw [wset_1]
          by_cases e : k = i
          · subst e
            rw [if_pos ⟨rfl, rfl⟩]
            rw [er] at c_34
            first | rw [if_pos c_34, er] | rw [if_neg c_34]
          · rw [if_neg (fun z => e z.2)]
            exact hv k (by omega)
        · refine a_aload hX dX5_findNext_37 rfl ?_
          refine gf_X5_60 (K1_p hq hi12) hX dX5_findNext_39 ?_
          refine a_goto 46 hX dX5_findNext_42 (by decide) ?_
          refine a_iast i hX rfl rfl (show i < 12 from hi12) dX5_findNext_46 ?_
          refine a_iinc (ls' := [_, _, _, _, _, _]) (nI (i + 1)) hX dX5_findNext_47 rfl (nI_i1 i) rfl ?_
          refine a_goto 3 hX dX5_findNext_50 (by decide) ?_
          refine ih (i + 1) _ _ (by omega) (by omega) (Fr.set hf2 rfl) (fun k hk => ?_)
          rw [wset_1]
          by_cases e : k = i
          · subst e
            rw [if_pos ⟨rfl, rfl⟩]
            rw [er] at c_34
            first | rw [if_pos c_34, er] | rw [if_neg c_34]
          · rw [if_neg (fun z => e z.2)]
            exact hv k (by omega)
  exact L3 13 0 w none (by omega) (by omega) Fr.rf (fun k hk => by omega)
def EW (n : Nat → Int32) : Nat → Nat → Bool := fun k i => bt (n k) i
def lowW (n : Nat → Int32) : Prop := ∀ k, k < 12 → ∀ i, 12 ≤ i → bt (n k) i = false
abbrev T_X5_lengthOfLeast : Tr := fun lay av w Po => ∃ (p : Nat), av = [.ref (lay 217), .int (nI p)] ∧ (p < 12) ∧ (lowW (w.1 219)) ∧ ∀ L : Nat, ((1 ≤ L ∧ L ≤ 12 ∧ wk (EW (w.1 219)) L p p ∧ ∀ m, 1 ≤ m → m < L → ¬ wk (EW (w.1 219)) m p p) ∨ (L = 0 ∧ ∀ m, 1 ≤ m → m ≤ 12 → ¬ wk (EW (w.1 219)) m p p)) → Po (some (.int (nI L))) w
set_option maxRecDepth 100000 in
set_option maxHeartbeats 4000000 in
theorem c_X5_lengthOfLeast : Ct yX5_lengthOfLeast cX5_lengthOfLeast 6 (some .int) 1 0 0 T_X5_lengthOfLeast := by
  refine Ct.mk (by decide +kernel) ?_
  intro X av w Po hX hR hT
  obtain ⟨p, rfl, hp, hl, h⟩ := hT
  refine ⟨rfl, ?_⟩
  show A X 0 0 0 [some (.ref (xlay X 217)), some (.int (nI p)), none, none, none, none] [] w
  refine a_iconst (1) hX dX5_lengthOfLeast_0 (by decide) ?_
  refine a_iload_n hX dX5_lengthOfLeast_1 rfl ?_
  refine a_ishl hX dX5_lengthOfLeast_2 ?_
  refine a_istore_n (ls' := [_, _, _, _, _, _]) hX dX5_lengthOfLeast_3 (Nat.le_of_ble_eq_true rfl) rfl ?_
  refine a_iconst (1) hX dX5_lengthOfLeast_4 (by decide) ?_
  refine a_istore_n (ls' := [_, _, _, _, _, _]) hX dX5_lengthOfLeast_5 (Nat.le_of_ble_eq_true rfl) rfl ?_
  have L6 : ∀ (fu1 : Nat) (n : Nat) (r : Int32) (y4 y5 : Option Value), 13 - n < fu1 → (1 ≤ n) → (n ≤ 13) → (∀ x, x < 32 → (bt r x = true ↔ x < 12 ∧ wk (EW (w.1 219)) (n - 1) p x)) → (∀ m, 1 ≤ m → m < n → ¬ wk (EW (w.1 219)) m p p) → A X 0 0 6 [some (.ref (xlay X 217)), some (.int (nI p)), some (.int r), some (.int (nI n)), y4, y5] [] w := by
    intro fu1
    induction fu1 with
    | zero => intro n r y4 y5 hmu; exact absurd hmu (Nat.not_lt_zero _)
    | succ fu1 ih1 =>
      intro n r y4 y5 hmu1 hn1 hn hr hno
      refine a_iload_n hX dX5_lengthOfLeast_6 rfl ?_
      refine a_bipush (12) hX dX5_lengthOfLeast_7 (by decide) ?_
      refine a_icmp_gt 72 hX dX5_lengthOfLeast_9 (by decide) (fun c_9 => ?_) (fun c_9 => ?_)
      · refine a_iconst (0) hX dX5_lengthOfLeast_72 (by decide) ?_
        refine a_iret hX hR dX5_lengthOfLeast_73 ⟨Nat.le_refl _, Nat.le_refl _⟩ rfl ?_
        have hn13 : n = 13 := by
          have := (nI_ltI (a := 12) (by decide) (by omega)).mp c_9
          omega
        subst hn13
        exact h 0 (Or.inr ⟨rfl, fun m h1 h2 => hno m h1 (by omega)⟩)
      · have hn12 : n ≤ 12 := Nat.not_lt.mp (fun q => c_9 (nI_lt (a := 12) q (by omega)))
        refine a_iconst (0) hX dX5_lengthOfLeast_12 (by decide) ?_
        refine a_istore (ls' := [_, _, _, _, _, _]) hX dX5_lengthOfLeast_13 (Nat.le_of_ble_eq_true rfl) rfl ?_
        refine a_iconst (0) hX dX5_lengthOfLeast_15 (by decide) ?_
        refine a_istore (ls' := [_, _, _, _, _, _]) hX dX5_lengthOfLeast_16 (Nat.le_of_ble_eq_true rfl) rfl ?_
        have L18 : ∀ (fu2 : Nat) (i : Nat) (a : Int32), 12 - i < fu2 → (i ≤ 12) → (∀ x, x < 32 → (bt a x = true ↔ ∃ z, z < i ∧ wk (EW (w.1 219)) (n - 1) p z ∧ x < 12 ∧ EW (w.1 219) z x = true)) → A X 0 0 18 [some (.ref (xlay X 217)), some (.int (nI p)), some (.int r), some (.int (nI n)), some (.int a), some (.int (nI i))] [] w := by
          intro fu2
          induction fu2 with
          | zero => intro i a hmu; exact absurd hmu (Nat.not_lt_zero _)
          | succ fu2 ih2 =>
            intro i a hmu2 hi ha
            refine a_iload hX dX5_lengthOfLeast_18 rfl ?_
            refine a_bipush (12) hX dX5_lengthOfLeast_20 (by decide) ?_
            refine a_icmp_ge 52 hX dX5_lengthOfLeast_22 (by decide) (fun c_22 => ?_) (fun c_22 => ?_)
            · have hi12 : i = 12 := by
                have := le_of_c (b := 12) c_22 (by omega) (by omega)
                omega
              subst hi12
              have haf : ∀ x, x < 32 → (bt a x = true ↔ x < 12 ∧ wk (EW (w.1 219)) n p x) := fun x hx => by
                rw [ha x hx]
                obtain ⟨n', rfl⟩ : ∃ n', n = n' + 1 := ⟨n - 1, by omega⟩
                rw [Nat.add_sub_cancel, wk_back]
                constructor
                · rintro ⟨z, hz, h1, h2, h3⟩
                  exact ⟨h2, z, h1, h2, h3⟩
                · rintro ⟨h2, z, h1, -, h3⟩
                  exact ⟨z, wk_lt hp h1, h1, h2, h3⟩
              have hap : nmP a (nI p) ↔ wk (EW (w.1 219)) n p p := by
                rw [nm_bt (by omega), haf p (by omega)]
                simp [hp]
              refine a_iload hX dX5_lengthOfLeast_52 rfl ?_
              refine a_iload_n hX dX5_lengthOfLeast_54 rfl ?_
              refine a_callSN [_, _] hX c_X7_names mi_X7_names ms_X7_names ln_X5_41 (by decide) rfl rfl (Nat.le_of_ble_eq_true rfl) (fun q => q) dX5_lengthOfLeast_55 ⟨_, _, rfl, ?_⟩
              refine a_if_eq_b 63 hX dX5_lengthOfLeast_58 (by decide) (fun c_58 => ?_) (fun c_58 => ?_)
              · have hnp : ¬ wk (EW (w.1 219)) n p p := fun z => c_58 (hap.mpr z)
                refine a_iload hX dX5_lengthOfLeast_63 rfl ?_
                refine a_istore_n (ls' := [_, _, _, _, _, _]) hX dX5_lengthOfLeast_65 (Nat.le_of_ble_eq_true rfl) rfl ?_
                refine a_iinc (ls' := [_, _, _, _, _, _]) (nI (n + 1)) hX dX5_lengthOfLeast_66 rfl (nI_i1 n) rfl ?_
                refine a_goto 6 hX dX5_lengthOfLeast_69 (by decide) ?_
                exact ih1 (n + 1) _ _ _ (by omega) (by omega) (by omega) (fun x hx => by rw [Nat.add_sub_cancel]; exact haf x hx) (fun m h1 h2 => by
                  by_cases e : m = n
                  · subst e; exact hnp
                  · exact hno m h1 (by omega))
              · refine a_iload_n hX dX5_lengthOfLeast_61 rfl ?_
                refine a_iret hX hR dX5_lengthOfLeast_62 ⟨Nat.le_refl _, Nat.le_refl _⟩ rfl ?_
                exact h n (Or.inl ⟨hn1, hn12, hap.mp c_58, hno⟩)
            · have hi12 : i < 12 := lt_of_c (b := 12) c_22 (by omega) (by omega)
              have hni : nmP r (nI i) ↔ wk (EW (w.1 219)) (n - 1) p i := by
                rw [nm_bt (by omega), hr i (by omega)]
                simp [hi12]
              refine a_iload_n hX dX5_lengthOfLeast_25 rfl ?_
              refine a_iload hX dX5_lengthOfLeast_26 rfl ?_
              refine a_callSN [_, _] hX c_X7_names mi_X7_names ms_X7_names ln_X5_41 (by decide) rfl rfl (Nat.le_of_ble_eq_true rfl) (fun q => q) dX5_lengthOfLeast_28 ⟨_, _, rfl, ?_⟩
              refine a_if_eq_b 46 hX dX5_lengthOfLeast_31 (by decide) (fun c_31 => ?_) (fun c_31 => ?_)
              · refine a_iinc (ls' := [_, _, _, _, _, _]) (nI (i + 1)) hX dX5_lengthOfLeast_46 rfl (nI_i1 i) rfl ?_
                refine a_goto 18 hX dX5_lengthOfLeast_49 (by decide) ?_
                refine ih2 (i + 1) _ (by omega) (by omega) (fun x hx => ?_)
                rw [ha x hx]
                constructor
                · rintro ⟨z, hz, h9⟩
                  exact ⟨z, by omega, h9⟩
                · rintro ⟨z, hz, h9⟩
                  by_cases e : z = i
                  · subst e
                    exact absurd (hni.mpr h9.1) c_31
                  · exact ⟨z, by omega, h9⟩
              · refine a_iload hX dX5_lengthOfLeast_34 rfl ?_
                refine a_aload_n hX dX5_lengthOfLeast_36 rfl ?_
                refine gf_X5_19 rfl hX dX5_lengthOfLeast_37 ?_
                refine a_iload hX dX5_lengthOfLeast_40 rfl ?_
                refine a_iald i hX rfl rfl (show i < 12 from hi12) dX5_lengthOfLeast_42 ?_
                refine a_ior hX dX5_lengthOfLeast_43 ?_
                refine a_istore (ls' := [_, _, _, _, _, _]) hX dX5_lengthOfLeast_44 (Nat.le_of_ble_eq_true rfl) rfl ?_
                refine a_iinc (ls' := [_, _, _, _, _, _]) (nI (i + 1)) hX dX5_lengthOfLeast_46 rfl (nI_i1 i) rfl ?_
                refine a_goto 18 hX dX5_lengthOfLeast_49 (by decide) ?_
                refine ih2 (i + 1) _ (by omega) (by omega) (fun x hx => ?_)
                rw [b_or, Bool.or_eq_true, ha x hx]
                constructor
                · rintro (⟨z, hz, h9⟩ | h9)
                  · exact ⟨z, by omega, h9⟩
                  · refine ⟨i, by omega, hni.mp c_31, ?_, h9⟩
                    rcases Nat.lt_or_ge x 12 with q | q
                    · exact q
                    · rw [hl i hi12 x q] at h9
                      cases h9
                · rintro ⟨z, hz, h9⟩
                  by_cases e : z = i
                  · subst e
                    exact Or.inr h9.2.2
                  · exact Or.inl ⟨z, by omega, h9⟩
        exact L18 13 0 _ (by omega) (by omega) (fun x hx => ⟨fun h9 => (by rw [b_0] at h9; cases h9), fun h9 => (by obtain ⟨z, hz, -⟩ := h9; omega)⟩)
  exact L6 14 1 _ none none (by omega) (by omega) (by omega) (fun x hx => by
    rw [b_shl p (by omega) 1 hx, bt_1]
    show _ ↔ x < 12 ∧ p = x
    constructor
    · intro h9
      simp at h9
      omega
    · rintro ⟨-, rfl⟩
      simp) (fun m h1 h2 => by omega)
abbrev T_X5_findLeads : Tr := fun lay av w Po => ∃ (f L : Nat), av = [.ref (lay 217), .int (nI f), .int (nI L)] ∧ (f < 12) ∧ (L ≤ 12) ∧ (lowW (w.1 219)) ∧ ∀ w' : St, Fr w w' (fun z => z = 220) → (∀ s, s ≤ L → ∀ x, x < 32 → (bt (w'.1 220 s) x = true ↔ x < 12 ∧ wk (EW (w.1 219)) s x f)) → Po none w'
set_option maxRecDepth 100000 in
set_option maxHeartbeats 4000000 in
theorem c_X5_findLeads : Ct yX5_findLeads cX5_findLeads 5 none 0 0 0 T_X5_findLeads := by
  refine Ct.mk (by decide +kernel) ?_
  intro X av w Po hX hR hT
  obtain ⟨f, L, rfl, hf, hL, hl, h⟩ := hT
  refine ⟨rfl, ?_⟩
  show A X 0 0 0 [some (.ref (xlay X 217)), some (.int (nI f)), some (.int (nI L)), none, none] [] w
  refine a_aload_n hX dX5_findLeads_0 rfl ?_
  refine gf_X5_22 rfl hX dX5_findLeads_1 ?_
  refine a_iconst (0) hX dX5_findLeads_4 (by decide) ?_
  refine a_iconst (1) hX dX5_findLeads_5 (by decide) ?_
  refine a_iload_n hX dX5_findLeads_6 rfl ?_
  refine a_ishl hX dX5_findLeads_7 ?_
  refine a_iast 0 hX rfl rfl (by decide) dX5_findLeads_8 ?_
  refine a_iconst (1) hX dX5_findLeads_9 (by decide) ?_
  refine a_istore_n (ls' := [_, _, _, _, _]) hX dX5_findLeads_10 (Nat.le_of_ble_eq_true rfl) rfl ?_
  have L11 : ∀ (fu1 : Nat) (n : Nat) (w2 : St) (y4 : Option Value), L + 1 - n < fu1 → (1 ≤ n) → (n ≤ L + 1) → (Fr w w2 (fun z => z = 220)) → (∀ s, s < n → ∀ x, x < 32 → (bt (w2.1 220 s) x = true ↔ x < 12 ∧ wk (EW (w.1 219)) s x f)) → A X 0 0 11 [some (.ref (xlay X 217)), some (.int (nI f)), some (.int (nI L)), some (.int (nI n)), y4] [] w2 := by
    intro fu1
    induction fu1 with
    | zero => intro n w2 y4 hmu; exact absurd hmu (Nat.not_lt_zero _)
    | succ fu1 ih1 =>
      intro n w2 y4 hmu1 hn1 hn hf2 hv
      refine a_iload_n hX dX5_findLeads_11 rfl ?_
      refine a_iload_n hX dX5_findLeads_12 rfl ?_
      refine a_icmp_gt 83 hX dX5_findLeads_13 (by decide) (fun c_13 => ?_) (fun c_13 => ?_)
      · refine a_vret hX hR dX5_findLeads_83 ⟨Nat.le_refl _, Nat.le_refl _⟩ ?_
        first
        | (have hnL : L < n := (nI_ltI (by omega) (by omega)).mp c_13
           exact h _ hf2 (fun s hs x hx => hv s (by omega) x hx))
      · have hnL : n ≤ L := Nat.not_lt.mp (fun q => c_13 (nI_lt q (by omega)))
        refine a_iload_n hX dX5_findLeads_16 rfl ?_
        refine a_bipush (12) hX dX5_findLeads_17 (by decide) ?_
        refine a_icmp_gt 83 hX dX5_findLeads_19 (by decide) (fun c_19 => ?_) (fun c_19 => ?_)
        · exact absurd ((nI_ltI (a := 12) (by decide) (by omega)).mp c_19) (by omega)
        · refine a_aload_n hX dX5_findLeads_22 rfl ?_
          refine gf_X5_22 rfl hX dX5_findLeads_23 ?_
          refine a_iload_n hX dX5_findLeads_26 rfl ?_
          refine a_iconst (0) hX dX5_findLeads_27 (by decide) ?_
          refine a_iast n hX rfl rfl (show n < 13 by omega) dX5_findLeads_28 ?_
          refine a_iconst (0) hX dX5_findLeads_29 (by decide) ?_
          refine a_istore (ls' := [_, _, _, _, _]) hX dX5_findLeads_30 (Nat.le_of_ble_eq_true rfl) rfl ?_
          have L32 : ∀ (fu2 : Nat) (i : Nat) (w3 : St), 12 - i < fu2 → (i ≤ 12) → (Fr w w3 (fun z => z = 220)) → (∀ s, s ≠ n → w3.1 220 s = w2.1 220 s) → (∀ x, x < 32 → (bt (w3.1 220 n) x = true ↔ x < i ∧ x < 12 ∧ ∃ z, z < 12 ∧ EW (w.1 219) x z = true ∧ wk (EW (w.1 219)) (n - 1) z f)) → A X 0 0 32 [some (.ref (xlay X 217)), some (.int (nI f)), some (.int (nI L)), some (.int (nI n)), some (.int (nI i))] [] w3 := by
            intro fu2
            induction fu2 with
            | zero => intro i w3 hmu; exact absurd hmu (Nat.not_lt_zero _)
            | succ fu2 ih2 =>
              intro i w3 hmu2 hi hf3 ho ha
              refine a_iload hX dX5_findLeads_32 rfl ?_
              refine a_bipush (12) hX dX5_findLeads_34 (by decide) ?_
              refine a_icmp_ge 77 hX dX5_findLeads_36 (by decide) (fun c_36 => ?_) (fun c_36 => ?_)
              · have hi12 : i = 12 := by
                  have := le_of_c (b := 12) c_36 (by omega) (by omega)
                  omega
                subst hi12
                have hv3 : ∀ s, s < n + 1 → ∀ x, x < 32 → (bt (w3.1 220 s) x = true ↔ x < 12 ∧ wk (EW (w.1 219)) s x f) := fun s hs x hx => by
                  by_cases e : s = n
                  · subst e
                    rw [ha x hx]
                    obtain ⟨n', rfl⟩ : ∃ n', s = n' + 1 := ⟨s - 1, by omega⟩
                    rw [Nat.add_sub_cancel]
                    constructor
                    · rintro ⟨h1, h2, h3⟩
                      exact ⟨h2, h3⟩
                    · rintro ⟨h2, h3⟩
                      exact ⟨h2, h2, h3⟩
                  · rw [ho s e]
                    exact hv s (by omega) x hx
                refine a_iinc (ls' := [_, _, _, _, _]) (nI (n + 1)) hX dX5_findLeads_77 rfl (nI_i1 n) rfl ?_
                refine a_goto 11 hX dX5_findLeads_80 (by decide) ?_
                exact ih1 (n + 1) w3 _ (by omega) (by omega) (by omega) hf3 hv3
              · have hi12 : i < 12 := lt_of_c (b := 12) c_36 (by omega) (by omega)
                have e219 : w3.1 219 = w.1 219 := hf3.2 219 (by decide)
                have hcz : (w3.1 219 i &&& w3.1 220 (n - 1) = 0) ↔ ¬ ∃ z, z < 12 ∧ EW (w.1 219) i z = true ∧ wk (EW (w.1 219)) (n - 1) z f := by
                  rw [e219, ho (n - 1) (by omega)]
                  constructor
                  · rintro h9 ⟨z, hz, h1, h2⟩
                    have h8 : bt (w.1 219 i &&& w2.1 220 (n - 1)) z = true := by
                      rw [b_and, (hv (n - 1) (by omega) z (by omega)).mpr ⟨hz, h2⟩]
                      rw [Bool.and_true]
                      exact h1
                    rw [h9, b_0] at h8
                    cases h8
                  · intro h9
                    apply b_ext
                    intro z hz
                    rw [b_0, b_and]
                    cases h8 : (bt (w.1 219 i) z && bt (w2.1 220 (n - 1)) z)
                    · rfl
                    · exfalso
                      rw [Bool.and_eq_true] at h8
                      have h7 := (hv (n - 1) (by omega) z hz).mp h8.2
                      exact h9 ⟨z, h7.1, h8.1, h7.2⟩
                refine a_aload_n hX dX5_findLeads_39 rfl ?_
                refine gf_X5_19 rfl hX dX5_findLeads_40 ?_
                refine a_iload hX dX5_findLeads_43 rfl ?_
                refine a_iald i hX rfl rfl (show i < 12 from hi12) dX5_findLeads_45 ?_
                refine a_aload_n hX dX5_findLeads_46 rfl ?_
                refine gf_X5_22 rfl hX dX5_findLeads_47 ?_
                refine a_iload_n hX dX5_findLeads_50 rfl ?_
                refine a_iconst (1) hX dX5_findLeads_51 (by decide) ?_
                refine a_isub hX dX5_findLeads_52 ?_
                refine a_iald (n - 1) hX rfl (pk_sub (by omega)) (show n - 1 < 13 by omega) dX5_findLeads_53 ?_
                refine a_iand hX dX5_findLeads_54 ?_
                refine a_if_eq 71 hX dX5_findLeads_55 (by decide) (fun c_55 => ?_) (fun c_55 => ?_)
                · refine a_iinc (ls' := [_, _, _, _, _]) (nI (i + 1)) hX dX5_findLeads_71 rfl (nI_i1 i) rfl ?_
                  refine a_goto 32 hX dX5_findLeads_74 (by decide) ?_
                  refine ih2 (i + 1) _ (by omega) (by omega) hf3 ho (fun x hx => ?_)
                  rw [ha x hx]
                  constructor
                  · rintro ⟨h1, h2⟩
                    exact ⟨by omega, h2⟩
                  · rintro ⟨h1, h2, h3⟩
                    by_cases e : x = i
                    · subst e
                      exact absurd h3 (hcz.mp c_55)
                    · exact ⟨by omega, h2, h3⟩
                · refine a_aload_n hX dX5_findLeads_58 rfl ?_
                  refine gf_X5_22 rfl hX dX5_findLeads_59 ?_
                  refine a_iload_n hX dX5_findLeads_62 rfl ?_
                  refine a_dup2 hX dX5_findLeads_63 rfl rfl ?_
                  refine a_iald n hX rfl rfl (show n < 13 by omega) dX5_findLeads_64 ?_
                  refine a_iconst (1) hX dX5_findLeads_65 (by decide) ?_
                  refine a_iload hX dX5_findLeads_66 rfl ?_
                  refine a_ishl hX dX5_findLeads_68 ?_
                  refine a_ior hX dX5_findLeads_69 ?_
                  refine a_iast n hX rfl rfl (show n < 13 by omega) dX5_findLeads_70 ?_
                  refine a_iinc (ls' := [_, _, _, _, _]) (nI (i + 1)) hX dX5_findLeads_71 rfl (nI_i1 i) rfl ?_
                  refine a_goto 32 hX dX5_findLeads_74 (by decide) ?_
                  refine ih2 (i + 1) _ (by omega) (by omega) (Fr.set hf3 rfl) (fun s hs => by rw [wset_1, if_neg (fun z => hs z.2)]; exact ho s hs) (fun x hx => ?_)
                  rw [wset_1, if_pos ⟨rfl, rfl⟩, b_or, Bool.or_eq_true, ha x hx, b_shl i (by omega) 1 hx, bt_1]
                  have hyes := Classical.not_not.mp (fun z => c_55 (hcz.mpr z))
                  constructor
                  · rintro (⟨h1, h2⟩ | h1)
                    · exact ⟨by omega, h2⟩
                    · have hxi : x = i := by simp at h1; omega
                      subst hxi
                      exact ⟨by omega, hi12, hyes⟩
                  · rintro ⟨h1, h2, h3⟩
                    by_cases e : x = i
                    · subst e
                      right
                      simp
                    · exact Or.inl ⟨by omega, h2, h3⟩
          exact L32 13 0 _ (by omega) (by omega) (Fr.set hf2 rfl) (fun s hs => by rw [wset_1, if_neg (fun z => hs z.2)]) (fun x hx => by
            rw [wset_1, if_pos ⟨rfl, rfl⟩, b_0]
            constructor
            · intro h9
              cases h9
            · rintro ⟨h9, -⟩
              omega)
  exact L11 (L + 1) 1 _ none (by omega) (by omega) (by omega) (Fr.set Fr.rf rfl) (fun s hs x hx => by
    have hs0 : s = 0 := by omega
    subst hs0
    rw [wset_1, if_pos ⟨rfl, rfl⟩, b_shl f (by omega) 1 hx, bt_1]
    simp only [wk]
    constructor
    · intro h9
      simp at h9
      omega
    · rintro ⟨-, rfl⟩
      simp)
