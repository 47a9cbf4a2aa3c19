/-! Registry: what the entries teach -/
def ix (x : Int32) : Nat := x.toNatClampNeg
theorem ix_nI {n : Nat} (h : n < 2 ^ 31) : ix (nI n) = n := nI_clamp h
def upP (P : Nat → Nat → Int32) (b k : Nat) (v : Int32) : Nat → Nat → Int32 := fun i q => if i = b ∧ q = k then v else P i q
def stP (e : Nat → Int32) (P : Nat → Nat → Int32) : Nat → Nat → Int32 :=
  if e 1 = 0 then upP P (ix (e 3)) 0 1
  else if e 1 = 1 then upP (upP (upP P (ix (e 3)) 0 2) (ix (e 3)) 1 (e 4)) (ix (e 3)) 3 (e 5)
  else if e 1 = 2 then upP (upP (upP (upP P (ix (e 3)) 0 (e 4)) (ix (e 3)) 1 (e 5)) (ix (e 3)) 3 (e 6)) (ix (e 3)) 4 (e 7)
  else if e 1 = 3 then upP (upP (upP (upP P (ix (e 3)) 0 (e 4)) (ix (e 3)) 1 (e 5)) (ix (e 3)) 2 (e 6)) (ix (e 3)) 4 (e 7)
  else if e 1 = 4 then upP (upP P (ix (e 3)) 0 8) (ix (e 4)) 5 (e 3)
  else if e 1 = 9 then upP (upP P (ix (e 3)) 6 (e 4)) (ix (e 3)) 7 (e 5)
  else if e 1 = 10 then upP P (ix (e 3)) 8 (P (ix (e 3)) 8 + e 4)
  else if e 1 = 12 then upP (upP (upP P (ix (e 3)) 0 2) (ix (e 3)) 1 (e 4)) (ix (e 3)) 3 (e 8)
  else P
theorem stP_0 {e : Nat → Int32} {P : Nat → Nat → Int32} (h : e 1 = 0) : stP e P = upP P (ix (e 3)) 0 1 := by simp [stP, h]
theorem stP_1 {e : Nat → Int32} {P : Nat → Nat → Int32} (h : e 1 = 1) : stP e P = upP (upP (upP P (ix (e 3)) 0 2) (ix (e 3)) 1 (e 4)) (ix (e 3)) 3 (e 5) := by simp [stP, h]
theorem stP_2 {e : Nat → Int32} {P : Nat → Nat → Int32} (h : e 1 = 2) : stP e P = upP (upP (upP (upP P (ix (e 3)) 0 (e 4)) (ix (e 3)) 1 (e 5)) (ix (e 3)) 3 (e 6)) (ix (e 3)) 4 (e 7) := by simp [stP, h]
theorem stP_3 {e : Nat → Int32} {P : Nat → Nat → Int32} (h : e 1 = 3) : stP e P = upP (upP (upP (upP P (ix (e 3)) 0 (e 4)) (ix (e 3)) 1 (e 5)) (ix (e 3)) 2 (e 6)) (ix (e 3)) 4 (e 7) := by simp [stP, h]
theorem stP_4 {e : Nat → Int32} {P : Nat → Nat → Int32} (h : e 1 = 4) : stP e P = upP (upP P (ix (e 3)) 0 8) (ix (e 4)) 5 (e 3) := by simp [stP, h]
theorem stP_9 {e : Nat → Int32} {P : Nat → Nat → Int32} (h : e 1 = 9) : stP e P = upP (upP P (ix (e 3)) 6 (e 4)) (ix (e 3)) 7 (e 5) := by simp [stP, h]
theorem stP_10 {e : Nat → Int32} {P : Nat → Nat → Int32} (h : e 1 = 10) : stP e P = upP P (ix (e 3)) 8 (P (ix (e 3)) 8 + e 4) := by simp [stP, h]
theorem stP_12 {e : Nat → Int32} {P : Nat → Nat → Int32} (h : e 1 = 12) : stP e P = upP (upP (upP P (ix (e 3)) 0 2) (ix (e 3)) 1 (e 4)) (ix (e 3)) 3 (e 8) := by simp [stP, h]
theorem stP_5 {e : Nat → Int32} {P : Nat → Nat → Int32} (h : e 1 = 5) : stP e P = P := by simp [stP, h]
theorem stP_6 {e : Nat → Int32} {P : Nat → Nat → Int32} (h : e 1 = 6) : stP e P = P := by simp [stP, h]
theorem stP_7 {e : Nat → Int32} {P : Nat → Nat → Int32} (h : e 1 = 7) : stP e P = P := by simp [stP, h]
theorem stP_8 {e : Nat → Int32} {P : Nat → Nat → Int32} (h : e 1 = 8) : stP e P = P := by simp [stP, h]
theorem stP_11 {e : Nat → Int32} {P : Nat → Nat → Int32} (h : e 1 = 11) : stP e P = P := by simp [stP, h]
/-- what is known of all persons: places, months (shape, length), days told, grants -/
abbrev RS : Type := (Nat → Nat → Nat → Int32) × (Nat → Nat → Nat → Int32) × (Nat → Nat → Nat → Bool) × (Nat → Int32)
def RS0 : RS := (fun _ _ k => if k = 5 then -1 else 0, fun _ _ _ => 0, fun _ _ _ => false, fun _ => -1)
def lrn (e : Nat → Int32) (S : RS) : RS :=
  (fun P => if P = ix (e 2) then stP e (S.1 P) else S.1 P,
   fun P M k =>
    if e 1 = 5 ∧ P = ix (e 2) ∧ M = ix (e 3) then (if k = 0 then (if e 4 = 0 then 1 else 2) else e 5)
    else if e 1 = 7 ∧ P = ix (e 2) ∧ M = ix (e 3) ∧ k = 0 then 3
    else if e 1 = 8 ∧ P = ix (e 4) ∧ M = ix (e 5) then S.2.1 (ix (e 2)) (ix (e 3)) k
    else S.2.1 P M k,
   fun P M k =>
    if e 1 = 5 ∧ P = ix (e 2) ∧ M = ix (e 3) then true
    else if e 1 = 6 ∧ P = ix (e 2) ∧ M = ix (e 3) ∧ k = ix (e 4) then decide (e 5 ≠ 0)
    else if e 1 = 8 ∧ P = ix (e 4) ∧ M = ix (e 5) then S.2.2.1 (ix (e 2)) (ix (e 3)) k
    else S.2.2.1 P M k,
   fun P => if e 1 = 11 ∧ P = ix (e 2) then e 3 else S.2.2.2 P)
def rpl (L : Nat → Nat → Int32) : Nat → RS
  | 0 => RS0
  | m + 1 => lrn (L m) (rpl L m)
theorem rpl_succ (L : Nat → Nat → Int32) (m : Nat) : rpl L (m + 1) = lrn (L m) (rpl L m) := rfl
/-- a file at role q holds this person's part -/
def FileS (w : St) (q : Nat) (S : RS) (P : Nat) : Prop :=
  (∀ i, i < 12 → ∀ k, k < 9 → w.1 (q + 1 + 4 + i) k = S.1 P i k) ∧
  (∀ M, M < 120 → w.1 (q + 2) M = S.2.1 P M 0 ∧ w.1 (q + 3) M = S.2.1 P M 1 ∧ BW (w.1 (q + 4) M) (fun k => S.2.2.1 P M k && decide ((k : Int) < (S.2.1 P M 1).toInt))) ∧ w.1 q 4 = S.2.2.2 P
def RegS (w : St) (r : Nat) (S : RS) : Prop := ∀ P, P < 6 → FileS w (r + 1 + 1 + 17 * P) S P
/-- an entry whose numbers are in their bounds -/
def vE (e : Nat → Int32) (S : RS) : Prop := ∃ P, P < 6 ∧ e 2 = nI P ∧
  (((e 1 = 0 ∨ e 1 = 1 ∨ e 1 = 2 ∨ e 1 = 3 ∨ e 1 = 9 ∨ e 1 = 10 ∨ e 1 = 12) ∧ ∃ j, j < 12 ∧ e 3 = nI j) ∨
   (e 1 = 4 ∧ ∃ j, j < 12 ∧ e 3 = nI j ∧ ∃ q, q < 12 ∧ e 4 = nI q) ∨
   (e 1 = 5 ∧ ∃ M, M < 120 ∧ e 3 = nI M ∧ ∃ n, n ≤ 30 ∧ e 5 = nI n) ∨
   (e 1 = 6 ∧ ∃ M, M < 120 ∧ e 3 = nI M ∧ ∃ k, k < 30 ∧ e 4 = nI k ∧ (k : Int) < (S.2.1 P M 1).toInt) ∨
   (e 1 = 7 ∧ ∃ M, M < 120 ∧ e 3 = nI M) ∨
   (e 1 = 8 ∧ ∃ M, M < 120 ∧ e 3 = nI M ∧ ∃ Q, Q < 6 ∧ e 4 = nI Q ∧ ∃ T, T < 120 ∧ e 5 = nI T) ∨ e 1 = 11)
abbrev T_X4_fileOf : Tr := fun lay av w Po => ∃ (r : Nat) (a : Int32), av = [.ref (lay r), .int a] ∧ (kd r = 4) ∧ ((∃ j, j < 6 ∧ a = nI j ∧ Po (some (.ref (lay (r + 1 + 1 + 17 * j)))) w) ∨ (¬ (0 ≤ a ∧ a < 6) ∧ Po (some .null) w))
set_option maxRecDepth 100000 in
set_option maxHeartbeats 4000000 in
theorem c_X4_fileOf : Ct yX4_fileOf cX4_fileOf 2 (some (.object "TermReckoner$File")) 0 0 0 T_X4_fileOf := by
  refine Ct.mk (by decide +kernel) ?_
  intro X av w Po hX hR hT
  obtain ⟨r, a, rfl, hr, h⟩ := hT
  refine ⟨rfl, ?_⟩
  show A X 0 0 0 [some (.ref (xlay X r)), some (.int a)] [] w
  refine a_iload_n hX dX4_fileOf_0 rfl ?_
  rcases h with ⟨j, hj, rfl, h⟩ | ⟨hn, h⟩
  rotate_left
  · refine a_if_lt 19 hX dX4_fileOf_1 (by decide) (fun c_1 => ?_) (fun c_1 => ?_)
    · refine a_null hX dX4_fileOf_19 ?_
      refine a_aret hX hR dX4_fileOf_20 ⟨Nat.le_refl _, Nat.le_refl _⟩ (Or.inl rfl) ?_
      exact h
    · refine a_iload_n hX dX4_fileOf_4 rfl ?_
      refine a_bipush (6) hX dX4_fileOf_5 (by decide) ?_
      refine a_icmp_ge 19 hX dX4_fileOf_7 (by decide) (fun c_7 => ?_) (fun c_7 => ?_)
      · refine a_null hX dX4_fileOf_19 ?_
        refine a_aret hX hR dX4_fileOf_20 ⟨Nat.le_refl _, Nat.le_refl _⟩ (Or.inl rfl) ?_
        exact h
      · exact absurd (by grind) hn
  refine a_if_lt 19 hX dX4_fileOf_1 (by decide) (fun c_1 => ?_) (fun c_1 => ?_)
  · exact absurd c_1 (nI_pos (by omega))
  · refine a_iload_n hX dX4_fileOf_4 rfl ?_
    refine a_bipush (6) hX dX4_fileOf_5 (by decide) ?_
    refine a_icmp_ge 19 hX dX4_fileOf_7 (by decide) (fun c_7 => ?_) (fun c_7 => ?_)
    · exact absurd (in_rng hj (by decide)).2 (Int32.not_lt.mpr c_7)
    · refine a_aload_n hX dX4_fileOf_10 rfl ?_
      refine gf_X4_11 hr hX dX4_fileOf_11 ?_
      refine a_iload_n hX dX4_fileOf_14 rfl ?_
      refine a_ald_files j hX (K4_1 hr) rfl hj dX4_fileOf_15 ?_
      refine a_goto 20 hX dX4_fileOf_16 (by decide) ?_
      refine a_aret hX hR dX4_fileOf_20 ⟨Nat.le_refl _, Nat.le_refl _⟩ (Or.inr ⟨_, rfl⟩) ?_
      exact h
abbrev T_X4_putTerm : Tr := fun lay av w Po => ∃ (r : Nat) (a b : Int32), av = [.ref (lay r), .int a, .int b] ∧ (kd r = 2) ∧ ∀ w' : St, w' = wset (wset (wset w r 0 2) r 1 a) r 3 b → Po none w'
set_option maxRecDepth 100000 in
set_option maxHeartbeats 4000000 in
theorem c_X4_putTerm : Ct yX4_putTerm cX4_putTerm 3 none 0 0 0 T_X4_putTerm := by
  refine Ct.mk (by decide +kernel) ?_
  intro X av w Po hX hR hT
  obtain ⟨r, a, b, rfl, hr, h⟩ := hT
  refine ⟨rfl, ?_⟩
  show A X 0 0 0 [some (.ref (xlay X r)), some (.int a), some (.int b)] [] w
  refine a_aload_n hX dX4_putTerm_0 rfl ?_
  refine a_iconst (2) hX dX4_putTerm_1 (by decide) ?_
  refine pf_X4_78 hr hX dX4_putTerm_2 ?_
  refine a_aload_n hX dX4_putTerm_5 rfl ?_
  refine a_iload_n hX dX4_putTerm_6 rfl ?_
  refine pf_X4_90 hr hX dX4_putTerm_7 ?_
  refine a_aload_n hX dX4_putTerm_10 rfl ?_
  refine a_iload_n hX dX4_putTerm_11 rfl ?_
  refine pf_X4_96 hr hX dX4_putTerm_12 ?_
  refine a_vret hX hR dX4_putTerm_15 ⟨Nat.le_refl _, Nat.le_refl _⟩ ?_
  exact h _ rfl
abbrev T_X4_markQuashed : Tr := fun lay av w Po => ∃ (r : Nat) (a : Int32), av = [.ref (lay r), .int a] ∧ (kd r = 2) ∧ ∀ w' : St, w' = wset w r 5 a → Po none w'
set_option maxRecDepth 100000 in
set_option maxHeartbeats 4000000 in
theorem c_X4_markQuashed : Ct yX4_markQuashed cX4_markQuashed 2 none 0 0 0 T_X4_markQuashed := by
  refine Ct.mk (by decide +kernel) ?_
  intro X av w Po hX hR hT
  obtain ⟨r, a, rfl, hr, h⟩ := hT
  refine ⟨rfl, ?_⟩
  show A X 0 0 0 [some (.ref (xlay X r)), some (.int a)] [] w
  refine a_aload_n hX dX4_markQuashed_0 rfl ?_
  refine a_ifnull hX dX4_markQuashed_1 ?_
  refine a_aload_n hX dX4_markQuashed_4 rfl ?_
  refine a_iload_n hX dX4_markQuashed_5 rfl ?_
  refine pf_X4_119 hr hX dX4_markQuashed_6 ?_
  refine a_vret hX hR dX4_markQuashed_9 ⟨Nat.le_refl _, Nat.le_refl _⟩ ?_
  exact h _ rfl
theorem ent_ne {r i : Nat} (h : r < 248) : 248 + i ≠ r := by omega
/-- wset steps on a file's places, read back -/
def lopPost (w w' : St) (q i : Nat) : Prop := Fr w w' (fun z => q + 5 ≤ z ∧ z < q + 17) ∧ ∀ i2, i2 < 12 → ∀ k, k < 9 → w'.1 (q + 1 + 4 + i2) k = stP (w.1 (248 + i)) (fun i k => w.1 (q + 1 + 4 + i) k) i2 k
theorem kd1_le {q : Nat} (h : kd q = 1) : q + 17 ≤ 248 := (by decide +kernel : ∀ r, r < 248 → kd r = 1 → r + 17 ≤ 248) q (kd_lt h (by decide)) h
abbrev T_X4_learnOfPlace : Tr := fun lay av w Po => ∃ (r q i : Nat), av = [.ref (lay r), .ref (lay q), .ref (w.2.2.2 i)] ∧ (kd r = 4) ∧ (kd q = 1) ∧ (i < w.2.2.1) ∧ ((∃ j, j < 12 ∧ w.1 (248 + i) 3 = nI j) ∧ ((w.1 (248 + i) 1 = 0 ∨ w.1 (248 + i) 1 = 1 ∨ w.1 (248 + i) 1 = 2 ∨ w.1 (248 + i) 1 = 3 ∨ w.1 (248 + i) 1 = 9 ∨ w.1 (248 + i) 1 = 10 ∨ w.1 (248 + i) 1 = 12) ∨ (w.1 (248 + i) 1 = 4 ∧ ∃ z, z < 12 ∧ w.1 (248 + i) 4 = nI z))) ∧ ∀ w' : St, lopPost w w' q i → Po none w'
set_option maxRecDepth 100000 in
set_option maxHeartbeats 4000000 in
theorem c_X4_learnOfPlace : Ct yX4_learnOfPlace cX4_learnOfPlace 4 none 2 0 0 T_X4_learnOfPlace := by
  refine Ct.mk (by decide +kernel) ?_
  intro X av w Po hX hR hT
  obtain ⟨r, q, i, rfl, hr, hq, hi, hv, h⟩ := hT
  refine ⟨rfl, ?_⟩
  show A X 0 0 0 [some (.ref (xlay X r)), some (.ref (xlay X q)), some (.ref (w.2.2.2 i)), none] [] w
  obtain ⟨⟨j, hj, e3⟩, hv⟩ := hv
  refine a_aload_n hX dX4_learnOfPlace_0 rfl ?_
  refine a_aload_n hX dX4_learnOfPlace_1 rfl ?_
  refine gf_X4_42 hi hX dX4_learnOfPlace_2 ?_
  refine a_callV [_] hX c_X1_at mi_X1_at mv_X1_at se_X1_at (klt hq (by decide)) (adr_lt (kd_lt hq (by decide))) (cell_1 hq) rfl li_X4_74 (by decide) rfl rfl (Nat.le_of_ble_eq_true rfl) (fun q => q) dX4_learnOfPlace_5 ⟨_, _, rfl, hq, Or.inl ⟨j, hj, e3, ?_⟩⟩
  refine a_astore_n (ls' := [_, _, _, _]) hX dX4_learnOfPlace_8 (Nat.le_of_ble_eq_true rfl) rfl ?_
  refine a_aload_n hX dX4_learnOfPlace_9 rfl ?_
  refine a_ifnonnull 14 hX dX4_learnOfPlace_10 (by decide) ?_
  refine a_aload_n hX dX4_learnOfPlace_14 rfl ?_
  refine gf_X4_39 hi hX dX4_learnOfPlace_15 ?_
  rcases hv with (e | e | e | e | e | e | e) | ⟨e, z, hz, e4⟩
  · rw [e]
    refine a_tableIn (off := 66) 84 hX dX4_learnOfPlace_18 (by decide) (by decide) (by decide) (by decide) ?_
    refine a_aload_n hX dX4_learnOfPlace_84 rfl ?_
    refine a_iconst (1) hX dX4_learnOfPlace_85 (by decide) ?_
    refine pf_X4_78 (K1_p hq hj) hX dX4_learnOfPlace_86 ?_
    refine a_goto 251 hX dX4_learnOfPlace_89 (by decide) ?_
    refine a_vret hX hR dX4_learnOfPlace_251 ⟨Nat.le_refl _, Nat.le_refl _⟩ ?_
    have hql : q + 17 ≤ 248 := kd1_le hq
    have hne : ∀ x, x < 12 → 248 + i ≠ q + 1 + 4 + x := fun x hx => by omega
    refine h _ ⟨?_, fun i2 hi2 k hk => ?_⟩
    · repeat (refine Fr.set ?_ (by omega))
      exact Fr.rf
    · have hjj : ∀ x y : Nat, (q + 1 + 4 + x = q + 1 + 4 + y) = (x = y) := fun x y => by simp
      rw [stP_0 e]
      simp only [wset_1, e3, upP, ix_nI (show j < 2 ^ 31 by omega), hne j hj, false_and, if_false, hjj]
  · rw [e]
    refine a_tableIn (off := 74) 92 hX dX4_learnOfPlace_18 (by decide) (by decide) (by decide) (by decide) ?_
    refine a_aload_n hX dX4_learnOfPlace_92 rfl ?_
    refine a_aload_n hX dX4_learnOfPlace_93 rfl ?_
    refine gf_X4_45 hi hX dX4_learnOfPlace_94 ?_
    refine a_aload_n hX dX4_learnOfPlace_97 rfl ?_
    refine gf_X4_48 hi hX dX4_learnOfPlace_98 ?_
    refine a_callS [_, _, _] hX c_X4_putTerm mi_X4_putTerm ms_X4_putTerm li_X4_83 (by decide) rfl rfl (Nat.le_of_ble_eq_true rfl) (fun q => q) dX4_learnOfPlace_101 ⟨_, _, _, rfl, (K1_p hq hj), ?_⟩
    intro w101 h101
    subst h101
    refine a_goto 251 hX dX4_learnOfPlace_104 (by decide) ?_
    refine a_vret hX hR dX4_learnOfPlace_251 ⟨Nat.le_refl _, Nat.le_refl _⟩ ?_
    have hql : q + 17 ≤ 248 := kd1_le hq
    have hne : ∀ x, x < 12 → 248 + i ≠ q + 1 + 4 + x := fun x hx => by omega
    refine h _ ⟨?_, fun i2 hi2 k hk => ?_⟩
    · repeat (refine Fr.set ?_ (by omega))
      exact Fr.rf
    · have hjj : ∀ x y : Nat, (q + 1 + 4 + x = q + 1 + 4 + y) = (x = y) := fun x y => by simp
      rw [stP_1 e]
      simp only [wset_1, e3, upP, ix_nI (show j < 2 ^ 31 by omega), hne j hj, false_and, if_false, hjj]
  · rw [e]
    refine a_tableIn (off := 104) 122 hX dX4_learnOfPlace_18 (by decide) (by decide) (by decide) (by decide) ?_
    refine a_aload_n hX dX4_learnOfPlace_122 rfl ?_
    refine a_aload_n hX dX4_learnOfPlace_123 rfl ?_
    refine gf_X4_45 hi hX dX4_learnOfPlace_124 ?_
    refine pf_X4_78 (K1_p hq hj) hX dX4_learnOfPlace_127 ?_
    refine a_aload_n hX dX4_learnOfPlace_130 rfl ?_
    refine a_aload_n hX dX4_learnOfPlace_131 rfl ?_
    refine gf_X4_48 hi hX dX4_learnOfPlace_132 ?_
    refine pf_X4_90 (K1_p hq hj) hX dX4_learnOfPlace_135 ?_
    refine a_aload_n hX dX4_learnOfPlace_138 rfl ?_
    refine a_aload_n hX dX4_learnOfPlace_139 rfl ?_
    refine gf_X4_93 hi hX dX4_learnOfPlace_140 ?_
    refine pf_X4_96 (K1_p hq hj) hX dX4_learnOfPlace_143 ?_
    refine a_aload_n hX dX4_learnOfPlace_146 rfl ?_
    refine a_aload_n hX dX4_learnOfPlace_147 rfl ?_
    refine gf_X4_97 hi hX dX4_learnOfPlace_148 ?_
    refine pf_X4_100 (K1_p hq hj) hX dX4_learnOfPlace_151 ?_
    refine a_goto 251 hX dX4_learnOfPlace_154 (by decide) ?_
    refine a_vret hX hR dX4_learnOfPlace_251 ⟨Nat.le_refl _, Nat.le_refl _⟩ ?_
    have hql : q + 17 ≤ 248 := kd1_le hq
    have hne : ∀ x, x < 12 → 248 + i ≠ q + 1 + 4 + x := fun x hx => by omega
    refine h _ ⟨?_, fun i2 hi2 k hk => ?_⟩
    · repeat (refine Fr.set ?_ (by omega))
      exact Fr.rf
    · have hjj : ∀ x y : Nat, (q + 1 + 4 + x = q + 1 + 4 + y) = (x = y) := fun x y => by simp
      rw [stP_2 e]
      simp only [wset_1, e3, upP, ix_nI (show j < 2 ^ 31 by omega), hne j hj, false_and, if_false, hjj]
  · rw [e]
    refine a_tableIn (off := 139) 157 hX dX4_learnOfPlace_18 (by decide) (by decide) (by decide) (by decide) ?_
    refine a_aload_n hX dX4_learnOfPlace_157 rfl ?_
    refine a_aload_n hX dX4_learnOfPlace_158 rfl ?_
    refine gf_X4_45 hi hX dX4_learnOfPlace_159 ?_
    refine pf_X4_78 (K1_p hq hj) hX dX4_learnOfPlace_162 ?_
    refine a_aload_n hX dX4_learnOfPlace_165 rfl ?_
    refine a_aload_n hX dX4_learnOfPlace_166 rfl ?_
    refine gf_X4_48 hi hX dX4_learnOfPlace_167 ?_
    refine pf_X4_90 (K1_p hq hj) hX dX4_learnOfPlace_170 ?_
    refine a_aload_n hX dX4_learnOfPlace_173 rfl ?_
    refine a_aload_n hX dX4_learnOfPlace_174 rfl ?_
    refine gf_X4_93 hi hX dX4_learnOfPlace_175 ?_
    refine pf_X4_103 (K1_p hq hj) hX dX4_learnOfPlace_178 ?_
    refine a_aload_n hX dX4_learnOfPlace_181 rfl ?_
    refine a_aload_n hX dX4_learnOfPlace_182 rfl ?_
    refine gf_X4_97 hi hX dX4_learnOfPlace_183 ?_
    refine pf_X4_100 (K1_p hq hj) hX dX4_learnOfPlace_186 ?_
    refine a_goto 251 hX dX4_learnOfPlace_189 (by decide) ?_
    refine a_vret hX hR dX4_learnOfPlace_251 ⟨Nat.le_refl _, Nat.le_refl _⟩ ?_
    have hql : q + 17 ≤ 248 := kd1_le hq
    have hne : ∀ x, x < 12 → 248 + i ≠ q + 1 + 4 + x := fun x hx => by omega
    refine h _ ⟨?_, fun i2 hi2 k hk => ?_⟩
    · repeat (refine Fr.set ?_ (by omega))
      exact Fr.rf
    · have hjj : ∀ x y : Nat, (q + 1 + 4 + x = q + 1 + 4 + y) = (x = y) := fun x y => by simp
      rw [stP_3 e]
      simp only [wset_1, e3, upP, ix_nI (show j < 2 ^ 31 by omega), hne j hj, false_and, if_false, hjj]
  · rw [e]
    refine a_tableIn (off := 198) 216 hX dX4_learnOfPlace_18 (by decide) (by decide) (by decide) (by decide) ?_
    refine a_aload_n hX dX4_learnOfPlace_216 rfl ?_
    refine a_aload_n hX dX4_learnOfPlace_217 rfl ?_
    refine gf_X4_45 hi hX dX4_learnOfPlace_218 ?_
    refine pf_X4_110 (K1_p hq hj) hX dX4_learnOfPlace_221 ?_
    refine a_aload_n hX dX4_learnOfPlace_224 rfl ?_
    refine a_aload_n hX dX4_learnOfPlace_225 rfl ?_
    refine gf_X4_48 hi hX dX4_learnOfPlace_226 ?_
    refine pf_X4_113 (K1_p hq hj) hX dX4_learnOfPlace_229 ?_
    refine a_goto 251 hX dX4_learnOfPlace_232 (by decide) ?_
    refine a_vret hX hR dX4_learnOfPlace_251 ⟨Nat.le_refl _, Nat.le_refl _⟩ ?_
    have hql : q + 17 ≤ 248 := kd1_le hq
    have hne : ∀ x, x < 12 → 248 + i ≠ q + 1 + 4 + x := fun x hx => by omega
    refine h _ ⟨?_, fun i2 hi2 k hk => ?_⟩
    · repeat (refine Fr.set ?_ (by omega))
      exact Fr.rf
    · have hjj : ∀ x y : Nat, (q + 1 + 4 + x = q + 1 + 4 + y) = (x = y) := fun x y => by simp
      rw [stP_9 e]
      simp only [wset_1, e3, upP, ix_nI (show j < 2 ^ 31 by omega), hne j hj, false_and, if_false, hjj]
  · rw [e]
    refine a_tableIn (off := 217) 235 hX dX4_learnOfPlace_18 (by decide) (by decide) (by decide) (by decide) ?_
    refine a_aload_n hX dX4_learnOfPlace_235 rfl ?_
    refine a_dup hX dX4_learnOfPlace_236 rfl ?_
    refine gf_X4_116 (K1_p hq hj) hX dX4_learnOfPlace_237 ?_
    refine a_aload_n hX dX4_learnOfPlace_240 rfl ?_
    refine gf_X4_45 hi hX dX4_learnOfPlace_241 ?_
    refine a_iadd hX dX4_learnOfPlace_244 ?_
    refine pf_X4_116 (K1_p hq hj) hX dX4_learnOfPlace_245 ?_
    refine a_goto 251 hX dX4_learnOfPlace_248 (by decide) ?_
    refine a_vret hX hR dX4_learnOfPlace_251 ⟨Nat.le_refl _, Nat.le_refl _⟩ ?_
    have hql : q + 17 ≤ 248 := kd1_le hq
    have hne : ∀ x, x < 12 → 248 + i ≠ q + 1 + 4 + x := fun x hx => by omega
    refine h _ ⟨?_, fun i2 hi2 k hk => ?_⟩
    · repeat (refine Fr.set ?_ (by omega))
      exact Fr.rf
    · have hjj : ∀ x y : Nat, (q + 1 + 4 + x = q + 1 + 4 + y) = (x = y) := fun x y => by simp
      rw [stP_10 e]
      simp only [wset_1, e3, upP, ix_nI (show j < 2 ^ 31 by omega), hne j hj, false_and, if_false, hjj]
  · rw [e]
    refine a_tableIn (off := 89) 107 hX dX4_learnOfPlace_18 (by decide) (by decide) (by decide) (by decide) ?_
    refine a_aload_n hX dX4_learnOfPlace_107 rfl ?_
    refine a_aload_n hX dX4_learnOfPlace_108 rfl ?_
    refine gf_X4_45 hi hX dX4_learnOfPlace_109 ?_
    refine a_aload_n hX dX4_learnOfPlace_112 rfl ?_
    refine gf_X4_87 hi hX dX4_learnOfPlace_113 ?_
    refine a_callS [_, _, _] hX c_X4_putTerm mi_X4_putTerm ms_X4_putTerm li_X4_83 (by decide) rfl rfl (Nat.le_of_ble_eq_true rfl) (fun q => q) dX4_learnOfPlace_116 ⟨_, _, _, rfl, (K1_p hq hj), ?_⟩
    intro w116 h116
    subst h116
    refine a_goto 251 hX dX4_learnOfPlace_119 (by decide) ?_
    refine a_vret hX hR dX4_learnOfPlace_251 ⟨Nat.le_refl _, Nat.le_refl _⟩ ?_
    have hql : q + 17 ≤ 248 := kd1_le hq
    have hne : ∀ x, x < 12 → 248 + i ≠ q + 1 + 4 + x := fun x hx => by omega
    refine h _ ⟨?_, fun i2 hi2 k hk => ?_⟩
    · repeat (refine Fr.set ?_ (by omega))
      exact Fr.rf
    · have hjj : ∀ x y : Nat, (q + 1 + 4 + x = q + 1 + 4 + y) = (x = y) := fun x y => by simp
      rw [stP_12 e]
      simp only [wset_1, e3, upP, ix_nI (show j < 2 ^ 31 by omega), hne j hj, false_and, if_false, hjj]
  · rw [e]
    refine a_tableIn (off := 174) 192 hX dX4_learnOfPlace_18 (by decide) (by decide) (by decide) (by decide) ?_
    refine a_aload_n hX dX4_learnOfPlace_192 rfl ?_
    refine a_bipush (8) hX dX4_learnOfPlace_193 (by decide) ?_
    refine pf_X4_78 (K1_p hq hj) hX dX4_learnOfPlace_195 ?_
    refine a_aload_n hX dX4_learnOfPlace_198 rfl ?_
    refine a_aload_n hX dX4_learnOfPlace_199 rfl ?_
    refine gf_X4_45 hi hX dX4_learnOfPlace_200 ?_
    refine a_callV [_] hX c_X1_at mi_X1_at mv_X1_at se_X1_at (klt hq (by decide)) (adr_lt (kd_lt hq (by decide))) (cell_1 hq) rfl li_X4_74 (by decide) rfl rfl (Nat.le_of_ble_eq_true rfl) (fun q => q) dX4_learnOfPlace_203 ⟨_, _, rfl, hq, Or.inl ⟨z, hz, (by rw [wset_ne _ _ _ _ (by have := kd1_le hq; omega)]; exact e4), ?_⟩⟩
    refine a_aload_n hX dX4_learnOfPlace_206 rfl ?_
    refine gf_X4_42 hi hX dX4_learnOfPlace_207 ?_
    refine a_callS [_, _] hX c_X4_markQuashed mi_X4_markQuashed ms_X4_markQuashed li_X4_106 (by decide) rfl rfl (Nat.le_of_ble_eq_true rfl) (fun q => q) dX4_learnOfPlace_210 ⟨_, _, rfl, (K1_p hq hz), ?_⟩
    intro w210 h210
    subst h210
    refine a_goto 251 hX dX4_learnOfPlace_213 (by decide) ?_
    refine a_vret hX hR dX4_learnOfPlace_251 ⟨Nat.le_refl _, Nat.le_refl _⟩ ?_
    have hql : q + 17 ≤ 248 := kd1_le hq
    have hne : ∀ x, x < 12 → 248 + i ≠ q + 1 + 4 + x := fun x hx => by omega
    refine h _ ⟨?_, fun i2 hi2 k hk => ?_⟩
    · repeat (refine Fr.set ?_ (by omega))
      exact Fr.rf
    · have hjj : ∀ x y : Nat, (q + 1 + 4 + x = q + 1 + 4 + y) = (x = y) := fun x y => by simp
      rw [stP_4 e]
      simp only [wset_1, e3, upP, ix_nI (show j < 2 ^ 31 by omega), hne j hj, false_and, if_false, hjj, e4, ix_nI (show z < 2 ^ 31 by omega), hne z hz]
theorem kd4_cs {r : Nat} (h : kd r = 4) : r = 2 ∨ r = 106 := (by decide +kernel : ∀ r, r < 248 → kd r = 4 → r = 2 ∨ r = 106) r (kd_lt h (by decide)) h
theorem lrn_pl {e : Nat → Int32} {S : RS} (P : Nat) : (lrn e S).1 P = if P = ix (e 2) then stP e (S.1 P) else S.1 P := rfl
theorem FileS.kept {w w' : St} {q : Nat} {S S' : RS} {P : Nat} (h : FileS w q S P) (hw : ∀ z, q ≤ z → z < q + 17 → w'.1 z = w.1 z) (h1 : S'.1 P = S.1 P) (h2 : S'.2.1 P = S.2.1 P) (h3 : S'.2.2.1 P = S.2.2.1 P) (h4 : S'.2.2.2 P = S.2.2.2 P) : FileS w' q S' P := by
  obtain ⟨a, b, c⟩ := h
  refine ⟨fun i hi k hk => ?_, fun M hM => ?_, ?_⟩
  · rw [hw _ (by omega) (by omega), h1]; exact a i hi k hk
  · rw [hw _ (by omega) (by omega), hw _ (by omega) (by omega), hw _ (by omega) (by omega), h2, h3]; exact b M hM
  · rw [hw _ (by omega) (by omega), h4]; exact c
/-- an order's call -/
theorem regS_pl {w w' : St} {r i P : Nat} {S : RS} (hreg : RegS w r S) (hP : P < 6) (e2 : w.1 (248 + i) 2 = nI P) (h5 : w.1 (248 + i) 1 ≠ 5) (h6 : w.1 (248 + i) 1 ≠ 6) (h7 : w.1 (248 + i) 1 ≠ 7) (h8 : w.1 (248 + i) 1 ≠ 8) (h11 : w.1 (248 + i) 1 ≠ 11) (hl : lopPost w w' (r + 1 + 1 + 17 * P) i) : RegS w' r (lrn (w.1 (248 + i)) S) := by
  have hix : ix (w.1 (248 + i) 2) = P := by rw [e2]; exact ix_nI (by omega)
  intro Q hQ
  by_cases hPQ : Q = P
  · subst hPQ
    obtain ⟨a, b, c⟩ := hreg Q hQ
    refine ⟨fun x hx k hk => ?_, fun M hM => ?_, ?_⟩
    · rw [hl.2 x hx k hk, lrn_pl, if_pos hix.symm]
      have : ∀ e : Nat → Int32, ∀ P1 P2 : Nat → Nat → Int32, (∀ x, x < 12 → ∀ k, k < 9 → P1 x k = P2 x k) → (ix (e 3) < 12 ∨ e 1 ≠ 10) → stP e P1 x k = stP e P2 x k := by
        intro e P1 P2 h12 h3
        have hxk := h12 x hx k hk
        have h83 : e 1 = 10 → P1 (ix (e 3)) 8 = P2 (ix (e 3)) 8 := fun z => h12 _ (by rcases h3 with h | h; exact h; exact absurd z h) 8 (by omega)
        have ky : ∀ (A B : Nat → Nat → Int32) (b k1 : Nat) (v : Int32), A x k = B x k → upP A b k1 v x k = upP B b k1 v x k := by
          intro A B b k1 v hAB
          simp only [upP, hAB]
        unfold stP
        split
        · exact ky _ _ _ _ _ hxk
        split
        · exact ky _ _ _ _ _ (ky _ _ _ _ _ (ky _ _ _ _ _ hxk))
        split
        · exact ky _ _ _ _ _ (ky _ _ _ _ _ (ky _ _ _ _ _ (ky _ _ _ _ _ hxk)))
        split
        · exact ky _ _ _ _ _ (ky _ _ _ _ _ (ky _ _ _ _ _ (ky _ _ _ _ _ hxk)))
        split
        · exact ky _ _ _ _ _ (ky _ _ _ _ _ hxk)
        split
        · exact ky _ _ _ _ _ (ky _ _ _ _ _ hxk)
        split
        · next h => rw [h83 h]; exact ky _ _ _ _ _ hxk
        split
        · exact ky _ _ _ _ _ (ky _ _ _ _ _ (ky _ _ _ _ _ hxk))
        · exact hxk
      by_cases h10 : w.1 (248 + i) 1 = 10 ∧ ¬ ix (w.1 (248 + i) 3) < 12
      · rw [stP_10 h10.1, stP_10 h10.1]
        simp only [upP]
        have : ¬ (x = ix (w.1 (248 + i) 3)) := by omega
        simp only [this, false_and, if_false]
        exact a x hx k hk
      · exact this _ _ _ a (by grind)
    · rw [hl.1.2 _ (by omega), hl.1.2 _ (by omega), hl.1.2 _ (by omega)]
      simp only [lrn, h5, h7, h8, false_and, if_false]
      have hb := b M hM
      refine ⟨hb.1, hb.2.1, hb.2.2.to (fun k hk => ?_)⟩
      simp only [h6, false_and, if_false]
    · rw [hl.1.2 _ (by omega)]
      simp only [lrn, h11, false_and, if_false]
      exact c
  · refine (hreg Q hQ).kept (fun z h1 h2 => hl.1.2 z (by omega)) ?_ ?_ ?_ ?_
    · rw [lrn_pl, if_neg (by omega)]
    · funext M k; simp only [lrn, h5, h7, h8, false_and, if_false]
    · funext M k; simp only [lrn, h5, h6, h8, false_and, if_false]
    · simp only [lrn, h11, false_and, if_false]
theorem regS_mo {w w' : St} {r P M : Nat} {n : Nat} {e : Nat → Int32} {S : RS} (hreg : RegS w r S) (hP : P < 6) (e1 : e 1 = 5) (e2 : e 2 = nI P) (hM : M < 120) (e3 : e 3 = nI M) (hn : n ≤ 30) (e5 : e 5 = nI n)
    (hw : w' = wset (wset (wset w (r + 1 + 1 + 17 * P + 2) M (if e 4 = 0 then 1 else 2)) (r + 1 + 1 + 17 * P + 3) M (e 5)) (r + 1 + 1 + 17 * P + 4) M (bUpTo (e 5 - 1))) : RegS w' r (lrn e S) := by
  have hix : ix (e 2) = P := by rw [e2]; exact ix_nI (by omega)
  have hix3 : ix (e 3) = M := by rw [e3]; exact ix_nI (by omega)
  intro Q hQ
  obtain ⟨a, b, c⟩ := hreg Q hQ
  refine ⟨fun x hx k hk => ?_, fun K hK => ?_, ?_⟩
  · rw [hw, wset_ne _ _ _ _ (by omega), wset_ne _ _ _ _ (by omega), wset_ne _ _ _ _ (by omega), lrn_pl]
    split
    · rw [stP_5 e1]; exact a x hx k hk
    · exact a x hx k hk
  · rw [hw]
    simp only [wset_1]
    by_cases hQM : Q = P ∧ K = M
    · obtain ⟨rfl, rfl⟩ := hQM
      refine ⟨by simp [lrn, e1, hix, hix3], by simp [lrn, e1, hix, hix3], ?_⟩
      simp only [and_self, if_true]
      have hn1 := nI_toInt (show n < 2 ^ 31 by omega)
      have hl1 : (1 : Int32).toInt = 1 := rfl
      have h0 : (nI n - 1).toInt = (n : Int) - 1 := by
        rw [i_sub (by rw [hn1, hl1]; omega) (by rw [hn1, hl1]; omega), hn1, hl1]
      rw [e5]
      refine (bUpTo_BW (nI n - 1)).to (fun k hk => ?_)
      simp only [lrn, e1, hix, hix3, true_and, and_self, if_true, h0, e5, hn1]
      simp
      omega
    · have hne : ∀ z, ¬ (r + 1 + 1 + 17 * Q + z = r + 1 + 1 + 17 * P + z ∧ K = M) := fun z h => hQM ⟨by omega, h.2⟩
      have h24 : ¬ (r + 1 + 1 + 17 * Q + 2 = r + 1 + 1 + 17 * P + 4 ∧ K = M) := fun h => by omega
      have h23 : ¬ (r + 1 + 1 + 17 * Q + 2 = r + 1 + 1 + 17 * P + 3 ∧ K = M) := fun h => by omega
      have h34 : ¬ (r + 1 + 1 + 17 * Q + 3 = r + 1 + 1 + 17 * P + 4 ∧ K = M) := fun h => by omega
      have h32 : ¬ (r + 1 + 1 + 17 * Q + 3 = r + 1 + 1 + 17 * P + 2 ∧ K = M) := fun h => by omega
      have h43 : ¬ (r + 1 + 1 + 17 * Q + 4 = r + 1 + 1 + 17 * P + 3 ∧ K = M) := fun h => by omega
      have h42 : ¬ (r + 1 + 1 + 17 * Q + 4 = r + 1 + 1 + 17 * P + 2 ∧ K = M) := fun h => by omega
      rw [if_neg h24, if_neg h23, if_neg (hne 2), if_neg h34, if_neg (hne 3), if_neg h32, if_neg (hne 4), if_neg h43, if_neg h42]
      have hb := b K hK
      have hm : ∀ k, (lrn e S).2.1 Q K k = S.2.1 Q K k := fun k => by simp only [lrn, e1, hix, hix3, hQM, true_and, if_false]; simp
      rw [hm, hm]
      refine ⟨hb.1, hb.2.1, hb.2.2.to (fun k hk => ?_)⟩
      simp only [lrn, e1, hix, hix3, hQM, true_and, if_false]
      simp
  · rw [hw, wset_ne _ _ _ _ (by omega), wset_ne _ _ _ _ (by omega), wset_ne _ _ _ _ (by omega)]
    simp [lrn, e1]
    exact c
theorem regS_da {w w' : St} {r P M q : Nat} {e : Nat → Int32} {S : RS} (hreg : RegS w r S) (hP : P < 6) (e1 : e 1 = 6) (e2 : e 2 = nI P) (hM : M < 120) (e3 : e 3 = nI M) (hq : q < 30) (e4 : e 4 = nI q) (hql : (q : Int) < (S.2.1 P M 1).toInt)
    (hw : w' = wset w (r + 1 + 1 + 17 * P + 4) M (if e 5 = 0 then w.1 (r + 1 + 1 + 17 * P + 4) M &&& (((1 : Int32) <<< (nI q &&& 31)) ^^^ (-1)) else w.1 (r + 1 + 1 + 17 * P + 4) M ||| ((1 : Int32) <<< (nI q &&& 31)))) : RegS w' r (lrn e S) := by
  have hix : ix (e 2) = P := by rw [e2]; exact ix_nI (by omega)
  have hix3 : ix (e 3) = M := by rw [e3]; exact ix_nI (by omega)
  have hix4 : ix (e 4) = q := by rw [e4]; exact ix_nI (by omega)
  have hbit : BW ((1 : Int32) <<< (nI q &&& 31)) (fun k => decide (k = q)) := by
    intro k hk
    rw [b_shl q (by omega) 1 hk, bt_1]
    by_cases hkq : k = q
    · subst hkq; simp [hq]
    · simp [hkq]; omega
  intro Q hQ
  obtain ⟨a, b, c⟩ := hreg Q hQ
  refine ⟨fun x hx k hk => ?_, fun K hK => ?_, ?_⟩
  · rw [hw, wset_ne _ _ _ _ (by omega), lrn_pl]
    split
    · rw [stP_6 e1]; exact a x hx k hk
    · exact a x hx k hk
  · rw [hw]
    simp only [wset_1]
    have hb := b K hK
    have hm : ∀ k, (lrn e S).2.1 Q K k = S.2.1 Q K k := fun k => by simp [lrn, e1]
    rw [hm, hm, if_neg (by omega), if_neg (by omega)]
    refine ⟨hb.1, hb.2.1, ?_⟩
    by_cases hQM : Q = P ∧ K = M
    · obtain ⟨rfl, rfl⟩ := hQM
      simp only [and_self, if_true]
      have htb : ∀ k, (lrn e S).2.2.1 Q K k = if k = q then decide (e 5 ≠ 0) else S.2.2.1 Q K k := fun k => by simp [lrn, e1, hix, hix3, hix4]
      split
      · next h5 =>
        refine (hb.2.2.andN hbit).to (fun k hk => ?_)
        rw [htb]
        by_cases hkq : k = q
        · subst hkq; simp [h5]
        · simp [hkq]
      · next h5 =>
        refine (hb.2.2.or hbit).to (fun k hk => ?_)
        rw [htb]
        by_cases hkq : k = q
        · subst hkq; simp [h5, hql]
        · simp [hkq]
    · rw [if_neg (fun h => hQM ⟨by omega, h.2⟩)]
      refine hb.2.2.to (fun k hk => ?_)
      have : (lrn e S).2.2.1 Q K k = S.2.2.1 Q K k := by
        simp only [lrn, e1, hix, hix3]
        rw [if_neg (fun h => by simp at h), if_neg (fun h => hQM ⟨h.2.1, h.2.2.1⟩), if_neg (fun h => by simp at h)]
      rw [this]
  · rw [hw, wset_ne _ _ _ _ (by omega)]
    simp [lrn, e1]
    exact c
theorem regS_to {w w' : St} {r P M : Nat} {e : Nat → Int32} {S : RS} (hreg : RegS w r S) (hP : P < 6) (e1 : e 1 = 7) (e2 : e 2 = nI P) (hM : M < 120) (e3 : e 3 = nI M) (hw : w' = wset w (r + 1 + 1 + 17 * P + 2) M 3) : RegS w' r (lrn e S) := by
  have hix : ix (e 2) = P := by rw [e2]; exact ix_nI (by omega)
  have hix3 : ix (e 3) = M := by rw [e3]; exact ix_nI (by omega)
  intro Q hQ
  obtain ⟨a, b, c⟩ := hreg Q hQ
  refine ⟨fun x hx k hk => ?_, fun K hK => ?_, ?_⟩
  · rw [hw, wset_ne _ _ _ _ (by omega), lrn_pl]
    split
    · rw [stP_7 e1]; exact a x hx k hk
    · exact a x hx k hk
  · rw [hw]
    simp only [wset_1]
    have hb := b K hK
    have hm : (lrn e S).2.1 Q K 1 = S.2.1 Q K 1 := by simp [lrn, e1]
    have h32 : ¬ (r + 1 + 1 + 17 * Q + 3 = r + 1 + 1 + 17 * P + 2 ∧ K = M) := fun h => by omega
    have h42 : ¬ (r + 1 + 1 + 17 * Q + 4 = r + 1 + 1 + 17 * P + 2 ∧ K = M) := fun h => by omega
    rw [hm, if_neg h32, if_neg h42]
    refine ⟨?_, hb.2.1, hb.2.2.to (fun k hk => by simp [lrn, e1])⟩
    by_cases hQM : Q = P ∧ K = M
    · obtain ⟨rfl, rfl⟩ := hQM
      simp [lrn, e1, hix, hix3]
    · rw [if_neg (fun h => hQM ⟨by omega, h.2⟩), hb.1]
      simp only [lrn, e1, hix, hix3]
      rw [if_neg (fun h => by simp at h), if_neg (fun h => hQM ⟨h.2.1, h.2.2.1⟩), if_neg (fun h => by simp at h)]
  · rw [hw, wset_ne _ _ _ _ (by omega)]
    simp [lrn, e1]
    exact c
theorem regS_cp {w w' : St} {r P M Q2 T : Nat} {e : Nat → Int32} {S : RS} (hreg : RegS w r S) (hP : P < 6) (e1 : e 1 = 8) (e2 : e 2 = nI P) (hM : M < 120) (e3 : e 3 = nI M) (hQ2 : Q2 < 6) (e4 : e 4 = nI Q2) (hT : T < 120) (e5 : e 5 = nI T)
    (hf : Fr w w' (fun z => z = r + 1 + 1 + 17 * Q2 + 2 ∨ z = r + 1 + 1 + 17 * Q2 + 3 ∨ z = r + 1 + 1 + 17 * Q2 + 4)) (h2 : w'.1 (r + 1 + 1 + 17 * Q2 + 2) = upd (w.1 (r + 1 + 1 + 17 * Q2 + 2)) T (w.1 (r + 1 + 1 + 17 * P + 2) M)) (h3 : w'.1 (r + 1 + 1 + 17 * Q2 + 3) = upd (w.1 (r + 1 + 1 + 17 * Q2 + 3)) T (w.1 (r + 1 + 1 + 17 * P + 3) M)) (h4 : w'.1 (r + 1 + 1 + 17 * Q2 + 4) = upd (w.1 (r + 1 + 1 + 17 * Q2 + 4)) T (w.1 (r + 1 + 1 + 17 * P + 4) M)) : RegS w' r (lrn e S) := by
  have hix : ix (e 2) = P := by rw [e2]; exact ix_nI (by omega)
  have hix3 : ix (e 3) = M := by rw [e3]; exact ix_nI (by omega)
  have hix4 : ix (e 4) = Q2 := by rw [e4]; exact ix_nI (by omega)
  have hix5 : ix (e 5) = T := by rw [e5]; exact ix_nI (by omega)
  have hs := (hreg P hP).2.1 M hM
  intro Q hQ
  obtain ⟨a, b, c⟩ := hreg Q hQ
  refine ⟨fun x hx k hk => ?_, fun K hK => ?_, ?_⟩
  · rw [hf.2 _ (by omega), lrn_pl]
    split
    · rw [stP_8 e1]; exact a x hx k hk
    · exact a x hx k hk
  · have hb := b K hK
    by_cases hQ2Q : Q = Q2
    · subst hQ2Q
      rw [h2, h3, h4]
      by_cases hKT : K = T
      · subst hKT
        have hm : ∀ k, (lrn e S).2.1 Q K k = S.2.1 P M k := fun k => by simp [lrn, e1, hix, hix3, hix4, hix5]
        have ht : ∀ k, (lrn e S).2.2.1 Q K k = S.2.2.1 P M k := fun k => by simp [lrn, e1, hix, hix3, hix4, hix5]
        rw [hm, hm]
        simp only [upd, if_true]
        exact ⟨hs.1, hs.2.1, hs.2.2.to (fun k hk => by rw [ht])⟩
      · have hm : ∀ k, (lrn e S).2.1 Q K k = S.2.1 Q K k := fun k => by simp [lrn, e1, hix, hix3, hix4, hix5, hKT]
        have ht : ∀ k, (lrn e S).2.2.1 Q K k = S.2.2.1 Q K k := fun k => by simp [lrn, e1, hix, hix3, hix4, hix5, hKT]
        rw [hm, hm]
        simp only [upd, hKT, if_false]
        exact ⟨hb.1, hb.2.1, hb.2.2.to (fun k hk => by rw [ht])⟩
    · rw [hf.2 _ (by omega), hf.2 _ (by omega), hf.2 _ (by omega)]
      have hm : ∀ k, (lrn e S).2.1 Q K k = S.2.1 Q K k := fun k => by simp [lrn, e1, hix, hix3, hix4, hix5, hQ2Q]
      have ht : ∀ k, (lrn e S).2.2.1 Q K k = S.2.2.1 Q K k := fun k => by simp [lrn, e1, hix, hix3, hix4, hix5, hQ2Q]
      rw [hm, hm]
      exact ⟨hb.1, hb.2.1, hb.2.2.to (fun k hk => by rw [ht])⟩
  · rw [hf.2 _ (by omega)]
    simp [lrn, e1]
    exact c
theorem regS_gr {w w' : St} {r P : Nat} {e : Nat → Int32} {S : RS} (hreg : RegS w r S) (hP : P < 6) (e1 : e 1 = 11) (e2 : e 2 = nI P) (hw : w' = wset w (r + 1 + 1 + 17 * P) 4 (e 3)) : RegS w' r (lrn e S) := by
  have hix : ix (e 2) = P := by rw [e2]; exact ix_nI (by omega)
  intro Q hQ
  obtain ⟨a, b, c⟩ := hreg Q hQ
  refine ⟨fun x hx k hk => ?_, fun K hK => ?_, ?_⟩
  · rw [hw, wset_ne _ _ _ _ (by omega), lrn_pl]
    split
    · rw [stP_11 e1]; exact a x hx k hk
    · exact a x hx k hk
  · rw [hw, wset_ne _ _ _ _ (by omega), wset_ne _ _ _ _ (by omega), wset_ne _ _ _ _ (by omega)]
    have hb := b K hK
    have hm : ∀ k, (lrn e S).2.1 Q K k = S.2.1 Q K k := fun k => by simp [lrn, e1]
    rw [hm, hm]
    exact ⟨hb.1, hb.2.1, hb.2.2.to (fun k hk => by simp [lrn, e1])⟩
  · rw [hw, wset_1]
    by_cases hQP : Q = P
    · subst hQP
      simp [lrn, e1, hix]
    · rw [if_neg (by omega)]
      simp [lrn, e1, hix, hQP]
      exact c
