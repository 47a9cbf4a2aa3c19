/-! the class: what its calls share -/
theorem CIg.pl {g : Sg} {w : St} (h : CIg g w) {j i k : Nat} (hj : j < 6) (hi : i < 12) (hk : k < 9) : w.1 (2 + 1 + 1 + 17 * j + 1 + 4 + i) k = (RSn g).1 j i k := (h.2.2.2.2.1.1 j hj).1 i hi k hk
theorem CIg.fl {g : Sg} {w : St} (h : CIg g w) {j : Nat} (hj : j < 6) : FileS w (2 + 1 + 1 + 17 * j) (RSn g) j := h.2.2.2.2.1.1 j hj
theorem isP_nI {g : Sg} {j : Nat} (h6 : gp g ≤ 6) (hj : j < gp g) : isP g (nI j) := in_rng hj (by omega)
theorem isL_nI {j : Nat} (hj : j < 12) : isL (nI j) := in_rng hj (by decide)
theorem room_in {g : Sg} {j i : Nat} (h6 : gp g ≤ 6) (hj : j < gp g) (hi : i < 12) : roomS g (nI j) (nI i) = if (RSn g).1 j i 0 = 0 then 0 else 2 := by
  unfold roomS pl
  rw [if_pos ⟨isP_nI h6 hj, isL_nI hi⟩, ix_nI (by omega), ix_nI (by omega)]
theorem room_out {g : Sg} {p l : Int32} (h : ¬ (isP g p ∧ isL l)) : roomS g p l = 1 := if_neg h
/-- an entry made and not yet told -/
def Pd (g : Sg) (w w' : St) (e : Nat → Int32) : Prop := CIg g w' ∧ (∀ r, r ≠ 248 + w.2.2.1 → w'.1 r = w.1 r) ∧ w'.2.1 = w.2.1 ∧ w'.2.2.1 = w.2.2.1 + 1 ∧ ∀ j, j < 9 → w'.1 (248 + w.2.2.1) j = e j
theorem Pd.init {g : Sg} {w w1 w2 : St} {e : Nat → Int32} (h : CIg g w) (hn : New w w1) (hf : Fr w1 w2 (fun z => z = 248 + w.2.2.1)) (he : ∀ j, j < 9 → w2.1 (248 + w.2.2.1) j = e j) : Pd g w w2 e :=
  ⟨(h.new hn).ent hf h.2.2.1, fun r hr => (hf.2 r hr).trans (hn.2.2.1 r hr), by rw [hf.1, hn.1], by rw [hf.1, hn.2.1], he⟩
theorem Pd.put {g : Sg} {w w' : St} {e : Nat → Int32} (h : Pd g w w' e) (hg : gn g ≤ w.2.2.1) (j : Nat) (v : Int32) : Pd g w (wset w' (248 + w.2.2.1) j v) (upd e j v) := by
  obtain ⟨a, b, c, d, f⟩ := h
  refine ⟨a.ent (Fr.set Fr.rf rfl) hg, fun r hr => by rw [wset_ne _ _ _ _ hr]; exact b r hr, c, d, fun k hk => ?_⟩
  rw [wset_row]
  unfold upd
  split
  · rfl
  · exact f k hk
theorem en9_p4 (t c a b c4 d e f nd v : Int32) : upd (en9 t c a b c4 d e f nd) 4 v = en9 t c a b v d e f nd := by
  funext k
  unfold upd en9
  grind
theorem en9_p5 (t c a b c4 d e f nd v : Int32) : upd (en9 t c a b c4 d e f nd) 5 v = en9 t c a b c4 v e f nd := by
  funext k
  unfold upd en9
  grind
theorem en9_p6 (t c a b c4 d e f nd v : Int32) : upd (en9 t c a b c4 d e f nd) 6 v = en9 t c a b c4 d v f nd := by
  funext k
  unfold upd en9
  grind
theorem en9_p7 (t c a b c4 d e f nd v : Int32) : upd (en9 t c a b c4 d e f nd) 7 v = en9 t c a b c4 d e v nd := by
  funext k
  unfold upd en9
  grind
theorem Pd.p4 {g : Sg} {w w' : St} {t c a b c4 d e f nd v : Int32} (h : Pd g w w' (en9 t c a b c4 d e f nd)) (hg : gn g ≤ w.2.2.1) : Pd g w (wset w' (248 + w.2.2.1) 4 v) (en9 t c a b v d e f nd) := by
  rw [← en9_p4 t c a b c4 d e f nd v]; exact h.put hg 4 v
theorem Pd.p5 {g : Sg} {w w' : St} {t c a b c4 d e f nd v : Int32} (h : Pd g w w' (en9 t c a b c4 d e f nd)) (hg : gn g ≤ w.2.2.1) : Pd g w (wset w' (248 + w.2.2.1) 5 v) (en9 t c a b c4 v e f nd) := by
  rw [← en9_p5 t c a b c4 d e f nd v]; exact h.put hg 5 v
theorem Pd.p6 {g : Sg} {w w' : St} {t c a b c4 d e f nd v : Int32} (h : Pd g w w' (en9 t c a b c4 d e f nd)) (hg : gn g ≤ w.2.2.1) : Pd g w (wset w' (248 + w.2.2.1) 6 v) (en9 t c a b c4 d v f nd) := by
  rw [← en9_p6 t c a b c4 d e f nd v]; exact h.put hg 6 v
theorem Pd.p7 {g : Sg} {w w' : St} {t c a b c4 d e f nd v : Int32} (h : Pd g w w' (en9 t c a b c4 d e f nd)) (hg : gn g ≤ w.2.2.1) : Pd g w (wset w' (248 + w.2.2.1) 7 v) (en9 t c a b c4 d e v nd) := by
  rw [← en9_p7 t c a b c4 d e f nd v]; exact h.put hg 7 v
theorem en9_p8 {t c a b c4 d e f nd v : Int32} (k : Nat) (hk : k < 9) : upd (en9 t c a b c4 d e f nd) 8 v k = en9 t c a b c4 d e f v k := by
  unfold upd en9
  grind
theorem Pd.p8 {g : Sg} {w w' : St} {t c a b c4 d e f nd v : Int32} (h : Pd g w w' (en9 t c a b c4 d e f nd)) (hg : gn g ≤ w.2.2.1) : Pd g w (wset w' (248 + w.2.2.1) 8 v) (en9 t c a b c4 d e f v) := by
  obtain ⟨a1, b1, c1, d1, f1⟩ := h.put hg 8 v
  exact ⟨a1, b1, c1, d1, fun k hk => by rw [f1 k hk]; exact en9_p8 k hk⟩
theorem Pd.M {g : Sg} {w w' : St} {e : Nat → Int32} (h : Pd g w w' e) : FrM w w' := fun r a b => h.2.1 r (by omega)
/-- the log takes the new entry -/
theorem CIg.log {g : Sg} {w w' w2 w3 : St} {e : Nat → Int32} (ho : okS (psh g e)) (h : Pd g w w' e) (hc : w.2.2.1 = gn g) (h2 : w2 = wset (wlog w') 0 1 (nI (gn g + 1))) (hf : Fr w2 w3 (fun z => 2 ≤ z ∧ z < 2 + 104)) (hr : RegS w3 2 (rpl (lg w2) (gn g + 1))) (hl : w3.1 2 1 = nI (gn g + 1)) : CIg (psh g e) w3 := by
  obtain ⟨⟨⟨a1, a2, a3, a4⟩, b, c, d, e1, ⟨m, f1, f2, f3⟩, i, j⟩, hk, k1, k2, k3⟩ := h
  have e2 : w2.2 = (gn g + 1, w'.2.2.1, w'.2.2.2) := by
    rw [h2, wset_2]
    show (w'.2.1 + 1, w'.2.2.1, w'.2.2.2) = _
    rw [b]
  have hz : ∀ r, r ≠ 0 → ¬ (2 ≤ r ∧ r < 106) → w3.1 r = w'.1 r := fun r h0 h1 => by
    rw [hf.2 r (by omega), h2, wset_ne _ _ _ _ h0]
    rfl
  have h0 : w3.1 0 = upd (w'.1 0) 1 (nI (gn g + 1)) := by
    rw [hf.2 0 (by omega), h2, wset_row]
    rfl
  have hL : ∀ x, x < gn g + 1 → ∀ j, j < 9 → w3.1 (248 + x) j = gL (psh g e) x j := fun x hx j hj => by
    rw [hz _ (by omega) (by omega)]
    show _ = (if x = gn g then e else gL g x) j
    by_cases ex : x = gn g
    · rw [if_pos ex, ex, ← hc]; exact k3 j hj
    · rw [if_neg ex]; exact d x (by omega) j hj
  have hrp : ∀ m, m ≤ gn g → rpl (gL (psh g e)) m = rpl (gL g) m := fun m hm => rpl_cong (fun x hx j _ => by
    show (if x = gn g then e else gL g x) j = _
    rw [if_neg (by omega)])
  refine ⟨⟨by rw [h0]; rfl, by rw [h0]; exact a2, by rw [h0]; exact a3, by rw [h0]; exact a4⟩, by rw [hf.1, e2]; rfl, by rw [hf.1, e2]; show gn g + 1 ≤ w'.2.2.1; omega, hL, ⟨?_, hl⟩, ⟨m, Nat.le_succ_of_le f1, by rw [hz _ (by omega) (by omega)]; exact f2, ?_⟩, by rw [hz _ (by omega) (by omega)]; exact i, by rw [hz _ (by omega) (by omega)]; exact j⟩
  · have e5 : rpl (lg w2) (gn g + 1) = RSn (psh g e) := rpl_cong (fun x hx j hj => by
      rw [← hL x hx j hj]
      show w2.1 (248 + x) j = _
      rw [hf.2 _ (by omega)])
    rw [← e5]; exact hr
  · rw [hrp m f1]
    exact fun P hP => (f3 P hP).kept (fun z h1 h2 => hz z (by omega) (by omega)) rfl rfl rfl rfl
abbrev T_X7_isPerson : Tr := fun lay av w Po => ∃ (a : Int32), av = [.ref (lay 0), .int a] ∧ Po (some (.int (bI (0 ≤ a ∧ a < w.1 0 2)))) w
set_option maxRecDepth 100000 in
set_option maxHeartbeats 4000000 in
theorem c_X7_isPerson : Ct yX7_isPerson cX7_isPerson 2 (some .boolean) 0 0 0 T_X7_isPerson := by
  refine Ct.mk (by decide +kernel) ?_
  intro X av w Po hX hR hT
  obtain ⟨a, rfl, h⟩ := hT
  refine ⟨rfl, ?_⟩
  show A X 0 0 0 [some (.ref (xlay X 0)), some (.int a)] [] w
  refine a_iload_n hX dX7_isPerson_0 rfl ?_
  refine a_if_lt 16 hX dX7_isPerson_1 (by decide) (fun c_1 => ?_) (fun c_1 => ?_)
  · refine a_iconst (0) hX dX7_isPerson_16 (by decide) ?_
    refine a_iret hX hR dX7_isPerson_17 ⟨Nat.le_refl _, Nat.le_refl _⟩ rfl ?_
    exact po_int h (by grind [bI])
  · refine a_iload_n hX dX7_isPerson_4 rfl ?_
    refine a_aload_n hX dX7_isPerson_5 rfl ?_
    refine gf_X7_19 rfl hX dX7_isPerson_6 ?_
    refine a_icmp_ge 16 hX dX7_isPerson_9 (by decide) (fun c_9 => ?_) (fun c_9 => ?_)
    · refine a_iconst (0) hX dX7_isPerson_16 (by decide) ?_
      refine a_iret hX hR dX7_isPerson_17 ⟨Nat.le_refl _, Nat.le_refl _⟩ rfl ?_
      exact po_int h (by grind [bI])
    · refine a_iconst (1) hX dX7_isPerson_12 (by decide) ?_
      refine a_goto 17 hX dX7_isPerson_13 (by decide) ?_
      refine a_iret hX hR dX7_isPerson_17 ⟨Nat.le_refl _, Nat.le_refl _⟩ rfl ?_
      exact po_int h (by grind [bI])
abbrev T_X7_dayAsked : Tr := fun lay av w Po => av = [.ref (lay 0)] ∧ Po (some (.int (if w.1 0 4 = -1 then w.1 0 3 else w.1 0 4))) w
set_option maxRecDepth 100000 in
set_option maxHeartbeats 4000000 in
theorem c_X7_dayAsked : Ct yX7_dayAsked cX7_dayAsked 1 (some .int) 0 0 0 T_X7_dayAsked := by
  refine Ct.mk (by decide +kernel) ?_
  intro X av w Po hX hR hT
  obtain ⟨rfl, h⟩ := hT
  refine ⟨rfl, ?_⟩
  show A X 0 0 0 [some (.ref (xlay X 0))] [] w
  refine a_aload_n hX dX7_dayAsked_0 rfl ?_
  refine gf_X7_25 rfl hX dX7_dayAsked_1 ?_
  refine a_iconst (-1) hX dX7_dayAsked_4 (by decide) ?_
  refine a_icmp_ne 15 hX dX7_dayAsked_5 (by decide) (fun c_5 => ?_) (fun c_5 => ?_)
  · refine a_aload_n hX dX7_dayAsked_15 rfl ?_
    refine gf_X7_25 rfl hX dX7_dayAsked_16 ?_
    refine a_iret hX hR dX7_dayAsked_19 ⟨Nat.le_refl _, Nat.le_refl _⟩ rfl ?_
    exact po_int h (by grind)
  · refine a_aload_n hX dX7_dayAsked_8 rfl ?_
    refine gf_X7_22 rfl hX dX7_dayAsked_9 ?_
    refine a_goto 19 hX dX7_dayAsked_12 (by decide) ?_
    refine a_iret hX hR dX7_dayAsked_19 ⟨Nat.le_refl _, Nat.le_refl _⟩ rfl ?_
    exact po_int h (by grind)
abbrev T_X7_fileOf : Tr := fun lay av w Po => ∃ (r m : Nat) (a : Int32), av = [.ref (lay 0), .ref (lay r), .int a] ∧ (kd r = 4) ∧ (w.1 0 2 = nI m) ∧ (m ≤ 6) ∧ ((∀ j, j < m → j < 6 → a = nI j → Po (some (.ref (lay (r + 1 + 1 + 17 * j)))) w) ∧ (¬ (0 ≤ a ∧ a < nI m) → Po (some .null) w))
set_option maxRecDepth 100000 in
set_option maxHeartbeats 4000000 in
theorem c_X7_fileOf : Ct yX7_fileOf cX7_fileOf 3 (some (.object "TermReckoner$File")) 1 0 0 T_X7_fileOf := by
  refine Ct.mk (by decide +kernel) ?_
  intro X av w Po hX hR hT
  obtain ⟨r, m, a, rfl, hr, hm, hm6, h⟩ := hT
  refine ⟨rfl, ?_⟩
  show A X 0 0 0 [some (.ref (xlay X 0)), some (.ref (xlay X r)), some (.int a)] [] w
  refine a_aload_n hX dX7_fileOf_0 rfl ?_
  refine a_iload_n hX dX7_fileOf_1 rfl ?_
  refine a_callV [_] hX c_X7_isPerson mi_X7_isPerson mv_X7_isPerson se_X7_isPerson (klt rfl (by decide)) (adr_lt (kd_lt rfl (by decide))) (cell_7 rfl) rfl li_X7_106 (by decide) rfl rfl (Nat.le_of_ble_eq_true rfl) (fun q => q) dX7_fileOf_2 ⟨_, rfl, ?_⟩
  refine a_if_eq_b 16 hX dX7_fileOf_5 (by decide) (fun c_5 => ?_) (fun c_5 => ?_)
  · refine a_null hX dX7_fileOf_16 ?_
    refine a_aret hX hR dX7_fileOf_17 ⟨Nat.le_refl _, Nat.le_refl _⟩ (Or.inl rfl) ?_
    exact h.2 (by rw [← hm]; exact c_5)
  · rw [hm] at c_5
    obtain ⟨j, hj, rfl⟩ := rng_ex (n := m) (by omega) c_5
    refine a_aload_n hX dX7_fileOf_8 rfl ?_
    refine a_iload_n hX dX7_fileOf_9 rfl ?_
    refine a_callV [_] hX c_X4_fileOf mi_X4_fileOf mv_X4_fileOf se_X4_fileOf (klt hr (by decide)) (adr_lt (kd_lt hr (by decide))) (cell_4 hr) rfl li_X7_79 (by decide) rfl rfl (Nat.le_of_ble_eq_true rfl) (fun q => q) dX7_fileOf_10 ⟨_, _, rfl, hr, Or.inl ⟨j, by omega, rfl, ?_⟩⟩
    refine a_goto 17 hX dX7_fileOf_13 (by decide) ?_
    refine a_aret hX hR dX7_fileOf_17 ⟨Nat.le_refl _, Nat.le_refl _⟩ (Or.inr ⟨_, rfl⟩) ?_
    exact h.1 j hj (by omega) rfl
abbrev T_X7_placeOf : Tr := fun lay av w Po => ∃ (r m : Nat) (p l : Int32), av = [.ref (lay 0), .ref (lay r), .int p, .int l] ∧ (kd r = 4) ∧ (w.1 0 2 = nI m) ∧ (m ≤ 6) ∧ ((∀ j i, j < m → j < 6 → i < 12 → p = nI j → l = nI i → Po (some (.ref (lay (r + 1 + 1 + 17 * j + 1 + 4 + i)))) w) ∧ (¬ ((0 ≤ p ∧ p < nI m) ∧ isL l) → Po (some .null) w))
set_option maxRecDepth 100000 in
set_option maxHeartbeats 4000000 in
theorem c_X7_placeOf : Ct yX7_placeOf cX7_placeOf 5 (some (.object "TermReckoner$Place")) 2 0 0 T_X7_placeOf := by
  refine Ct.mk (by decide +kernel) ?_
  intro X av w Po hX hR hT
  obtain ⟨r, m, p, l, rfl, hr, hm, hm6, h⟩ := hT
  refine ⟨rfl, ?_⟩
  show A X 0 0 0 [some (.ref (xlay X 0)), some (.ref (xlay X r)), some (.int p), some (.int l), none] [] w
  refine a_aload_n hX dX7_placeOf_0 rfl ?_
  refine a_aload_n hX dX7_placeOf_1 rfl ?_
  refine a_iload_n hX dX7_placeOf_2 rfl ?_
  refine a_callV [_, _] hX c_X7_fileOf mi_X7_fileOf mv_X7_fileOf se_X7_fileOf (klt rfl (by decide)) (adr_lt (kd_lt rfl (by decide))) (cell_7 rfl) rfl li_X7_112 (by decide) rfl rfl (Nat.le_of_ble_eq_true rfl) (fun q => q) dX7_placeOf_3 ⟨_, m, _, rfl, hr, (by assumption), (by assumption), ?_⟩
  refine ⟨fun j3 hj3 hj63 e3 => ?_, fun hn3 => ?_⟩
  · subst e3
    refine a_astore (ls' := [_, _, _, _, _]) hX dX7_placeOf_6 (Nat.le_of_ble_eq_true rfl) rfl ?_
    refine a_aload hX dX7_placeOf_8 rfl ?_
    refine a_ifnonnull 17 hX dX7_placeOf_10 (by decide) ?_
    refine a_aload hX dX7_placeOf_17 rfl ?_
    refine a_iload_n hX dX7_placeOf_19 rfl ?_
    rcases rng_cs l 12 (by decide) with ⟨i, hi, rfl⟩ | hnl
    · refine a_callV [_] hX c_X1_at mi_X1_at mv_X1_at se_X1_at (klt (K4_f (show kd r = 4 by first | rfl | assumption) hj63) (by decide)) (adr_lt (kd_lt (K4_f (show kd r = 4 by first | rfl | assumption) hj63) (by decide))) (cell_1 (K4_f (show kd r = 4 by first | rfl | assumption) hj63)) rfl li_X7_131 (by decide) rfl rfl (Nat.le_of_ble_eq_true rfl) (fun q => q) dX7_placeOf_20 ⟨_, _, rfl, K4_f hr hj63, Or.inl ⟨i, hi, rfl, ?_⟩⟩
      refine a_aret hX hR dX7_placeOf_23 ⟨Nat.le_refl _, Nat.le_refl _⟩ (Or.inr ⟨_, rfl⟩) ?_
      first | exact h.1 _ _ hj3 hj63 hi rfl rfl | exact h.2 (fun z => hnl z.2) | exact h.2 (fun z => hn3 z.1)
    · refine a_callV [_] hX c_X1_at mi_X1_at mv_X1_at se_X1_at (klt (K4_f (show kd r = 4 by first | rfl | assumption) hj63) (by decide)) (adr_lt (kd_lt (K4_f (show kd r = 4 by first | rfl | assumption) hj63) (by decide))) (cell_1 (K4_f (show kd r = 4 by first | rfl | assumption) hj63)) rfl li_X7_131 (by decide) rfl rfl (Nat.le_of_ble_eq_true rfl) (fun q => q) dX7_placeOf_20 ⟨_, _, rfl, K4_f hr hj63, Or.inr ⟨hnl, ?_⟩⟩
      refine a_aret hX hR dX7_placeOf_23 ⟨Nat.le_refl _, Nat.le_refl _⟩ (Or.inl rfl) ?_
      first | exact h.1 _ _ hj3 hj63 hi rfl rfl | exact h.2 (fun z => hnl z.2) | exact h.2 (fun z => hn3 z.1)
  · refine a_astoreN (ls' := [_, _, _, _, _]) hX dX7_placeOf_6 (Nat.le_of_ble_eq_true rfl) rfl ?_
    refine a_aloadN hX dX7_placeOf_8 rfl ?_
    refine a_ifnonnullN hX dX7_placeOf_10 ?_
    refine a_null hX dX7_placeOf_13 ?_
    refine a_goto 23 hX dX7_placeOf_14 (by decide) ?_
    refine a_aret hX hR dX7_placeOf_23 ⟨Nat.le_refl _, Nat.le_refl _⟩ (Or.inl rfl) ?_
    first | exact h.1 _ _ hj3 hj63 hi rfl rfl | exact h.2 (fun z => hnl z.2) | exact h.2 (fun z => hn3 z.1)
abbrev T_X7_putStatus : Tr := fun lay av w Po => ∃ (g : Sg) (p l : Int32), av = [.ref (lay 0), .int p, .int l] ∧ (CIg g w) ∧ (okS g) ∧ Po (some (.int (roomS g p l))) w
set_option maxRecDepth 100000 in
set_option maxHeartbeats 4000000 in
theorem c_X7_putStatus : Ct yX7_putStatus cX7_putStatus 4 (some .int) 3 0 0 T_X7_putStatus := by
  refine Ct.mk (by decide +kernel) ?_
  intro X av w Po hX hR hT
  obtain ⟨g, p, l, rfl, hC, ho, h⟩ := hT
  refine ⟨rfl, ?_⟩
  show A X 0 0 0 [some (.ref (xlay X 0)), some (.int p), some (.int l), none] [] w
  refine a_aload_n hX dX7_putStatus_0 rfl ?_
  refine a_aload_n hX dX7_putStatus_1 rfl ?_
  refine gf_X7_31 rfl hX dX7_putStatus_2 ?_
  refine a_iload_n hX dX7_putStatus_5 rfl ?_
  refine a_iload_n hX dX7_putStatus_6 rfl ?_
  refine a_callV [_, _, _] hX c_X7_placeOf mi_X7_placeOf mv_X7_placeOf se_X7_placeOf (klt rfl (by decide)) (adr_lt (kd_lt rfl (by decide))) (cell_7 rfl) rfl li_X7_93 (by decide) rfl rfl (Nat.le_of_ble_eq_true rfl) (fun q => q) dX7_putStatus_7 ⟨2, (gp g), _, _, rfl, rfl, hC.1.2.1, ho.1.2.1, ?_⟩
  refine ⟨fun j7 i7 hj7 hj67 hi7 e7 f7 => ?_, fun hn7 => ?_⟩
  · subst e7 f7
    refine a_astore_n (ls' := [_, _, _, _]) hX dX7_putStatus_10 (Nat.le_of_ble_eq_true rfl) rfl ?_
    refine a_aload_n hX dX7_putStatus_11 rfl ?_
    refine a_ifnonnull 17 hX dX7_putStatus_12 (by decide) ?_
    refine a_aload_n hX dX7_putStatus_17 rfl ?_
    refine gf_X7_97 (K1_p (K4_f (show kd 2 = 4 by first | rfl | assumption) hj67) hi7) hX dX7_putStatus_18 ?_
    rw [hC.pl hj67 hi7 (by decide)]
    refine a_if_ne 28 hX dX7_putStatus_21 (by decide) (fun c_21 => ?_) (fun c_21 => ?_)
    · refine a_iconst (2) hX dX7_putStatus_28 (by decide) ?_
      refine a_iret hX hR dX7_putStatus_29 ⟨Nat.le_refl _, Nat.le_refl _⟩ rfl ?_
      exact po_int h (by rw [room_in ho.1.2.1 hj7 hi7]; simp [c_21])
    · refine a_iconst (0) hX dX7_putStatus_24 (by decide) ?_
      refine a_goto 29 hX dX7_putStatus_25 (by decide) ?_
      refine a_iret hX hR dX7_putStatus_29 ⟨Nat.le_refl _, Nat.le_refl _⟩ rfl ?_
      exact po_int h (by rw [room_in ho.1.2.1 hj7 hi7]; simp [c_21])
  · refine a_astore_nN (ls' := [_, _, _, _]) hX dX7_putStatus_10 (Nat.le_of_ble_eq_true rfl) rfl ?_
    refine a_aload_nN hX dX7_putStatus_11 rfl ?_
    refine a_ifnonnullN hX dX7_putStatus_12 ?_
    refine a_iconst (1) hX dX7_putStatus_15 (by decide) ?_
    refine a_iret hX hR dX7_putStatus_16 ⟨Nat.le_refl _, Nat.le_refl _⟩ rfl ?_
    exact po_int h (room_out hn7)
abbrev T_X7_tell : Tr := fun lay av w Po => ∃ (g : Sg) (w0 : St) (e : Nat → Int32), av = [.ref (lay 0), .ref (w.2.2.2 w0.2.2.1)] ∧ (CI g w0) ∧ (Pd g w0 w e) ∧ (okS g) ∧ (gn g < 400 → okS (psh g e)) ∧ ∀ w' : St, CI (coS g e).2 w' → FrM w0 w' → Po (some (.int (coS g e).1)) w'
set_option maxRecDepth 100000 in
set_option maxHeartbeats 4000000 in
theorem c_X7_tell : Ct yX7_tell cX7_tell 2 (some .int) 5 0 0 T_X7_tell := by
  refine Ct.mk (by decide +kernel) ?_
  intro X av w Po hX hR hT
  obtain ⟨g, w0, e, rfl, hC, hd, ho, hoe, h⟩ := hT
  refine ⟨rfl, ?_⟩
  show A X 0 0 0 [some (.ref (xlay X 0)), some (.ref (w.2.2.2 w0.2.2.1))] [] w
  have hlt : w0.2.2.1 < w.2.2.1 := by rw [hd.2.2.2.1]; omega
  have hgn := ho.1.1
  refine a_aload_n hX dX7_tell_0 rfl ?_
  refine gf_X7_15 rfl hX dX7_tell_1 ?_
  rw [hd.1.1.1]
  refine a_sipush (400) hX dX7_tell_4 (by decide) ?_
  refine a_icmp_lt 13 hX dX7_tell_7 (by decide) (fun c_7 => ?_) (fun c_7 => ?_)
  · have h4 : gn g < 400 := by
      rcases Nat.lt_or_ge (gn g) 400 with q | q
      · exact q
      · exact absurd (by rw [show gn g = 400 by omega] at c_7; exact c_7) (by decide)
    have hoe := hoe h4
    have e9 : coS g e = (0, psh g e) := if_neg (by omega)
    have hnn : w0.2.2.1 = w.2.1 := by rw [hC.2 h4, hd.1.2.1]
    refine a_aload_n hX dX7_tell_13 rfl ?_
    refine gf_X7_11 rfl hX dX7_tell_14 ?_
    refine a_aload_n hX dX7_tell_17 rfl ?_
    refine gf_X7_15 rfl hX dX7_tell_18 ?_
    refine a_aload_n hX dX7_tell_21 rfl ?_
    rw [hnn]
    refine a_ast_log hX (by rw [hd.1.1.1, hd.1.2.1]) (by rw [hd.1.2.1]; exact h4) (by rw [← hnn]; exact hlt) dX7_tell_22 ?_
    refine a_aload_n hX dX7_tell_23 rfl ?_
    refine a_dup hX dX7_tell_24 rfl ?_
    refine gf_X7_15 rfl hX dX7_tell_25 ?_
    refine a_iconst (1) hX dX7_tell_28 (by decide) ?_
    refine a_iadd hX dX7_tell_29 ?_
    rw [show (wlog w).1 0 1 = nI (gn g) from hd.1.1.1, nI_1]
    refine pf_X7_15 rfl hX dX7_tell_30 ?_
    refine a_aload_n hX dX7_tell_33 rfl ?_
    refine gf_X7_31 rfl hX dX7_tell_34 ?_
    refine a_aload_n hX dX7_tell_37 rfl ?_
    refine gf_X7_11 rfl hX dX7_tell_38 ?_
    refine a_aload_n hX dX7_tell_41 rfl ?_
    refine gf_X7_15 rfl hX dX7_tell_42 ?_
    rw [show (wset (wlog w) 0 1 (nI (gn g + 1))).1 0 1 = nI (gn g + 1) from by rw [wset_1, if_pos ⟨rfl, rfl⟩]]
    have hlL : ∀ x, x < gn g + 1 → ∀ j, j < 9 → lg (wset (wlog w) 0 1 (nI (gn g + 1))) x j = gL (psh g e) x j := fun x hx j hj => by
      show (wset (wlog w) 0 1 (nI (gn g + 1))).1 (248 + x) j = (if x = gn g then e else gL g x) j
      rw [wset_ne _ _ _ _ (by omega)]
      show w.1 (248 + x) j = _
      by_cases ex : x = gn g
      · rw [if_pos ex, ex, ← hC.2 h4]; exact hd.2.2.2.2 j hj
      · rw [if_neg ex]; exact hd.1.2.2.2.1 x (by omega) j hj
    have hwl : (wset (wlog w) 0 1 (nI (gn g + 1))).1 2 1 = nI (gn g) := by
      rw [wset_ne _ _ _ _ (by decide)]
      exact hd.1.2.2.2.2.1.2
    have hwr : RegS (wset (wlog w) 0 1 (nI (gn g + 1))) 2 (rpl (lg (wset (wlog w) 0 1 (nI (gn g + 1)))) (gn g)) := by
      have e8 : rpl (lg (wset (wlog w) 0 1 (nI (gn g + 1)))) (gn g) = RSn g := rpl_cong (fun x hx j hj => by
        rw [hlL x (by omega) j hj]
        show (if x = gn g then e else gL g x) j = _
        rw [if_neg (by omega)])
      rw [e8]
      exact fun P hP => (hd.1.2.2.2.2.1.1 P hP).kept (fun z h1 h2 => by rw [wset_ne _ _ _ _ (by omega)]; rfl) rfl rfl rfl rfl
    have hwv : ∀ i, i < gn g + 1 → vE (lg (wset (wlog w) 0 1 (nI (gn g + 1))) i) (rpl (lg (wset (wlog w) 0 1 (nI (gn g + 1)))) i) := fun i hi => by
      rw [rpl_cong (m := i) (L' := gL (psh g e)) (fun x hx j hj => hlL x (by omega) j hj)]
      exact vE_cong (fun j hj => (hlL i hi j hj).symm) (hoe.2.2.2.1 i hi).2.1
    refine a_callV [_, _] hX c_X4_learnUpTo mi_X4_learnUpTo mv_X4_learnUpTo se_X4_learnUpTo (klt rfl (by decide)) (adr_lt (kd_lt rfl (by decide))) (cell_4 rfl) rfl li_X7_269 (by decide) rfl rfl (Nat.le_of_ble_eq_true rfl) (fun q => q) dX7_tell_45 ⟨2, gn g + 1, gn g, rfl, rfl, by show gn g + 1 ≤ w.2.1 + 1; rw [hd.1.2.1]; omega, by omega, by show w.2.1 + 1 ≤ w.2.2.1; omega, hgn, hwl, hwr, hwv, ?_⟩
    intro w45 hf45 hr45 hl45
    refine a_iconst (0) hX dX7_tell_48 (by decide) ?_
    refine a_iret hX hR dX7_tell_49 ⟨Nat.le_refl _, Nat.le_refl _⟩ rfl ?_
    rw [e9] at h
    exact h w45 ⟨CIg.log hoe hd (by rw [hC.2 h4]) rfl hf45 hr45 hl45, fun _ => by
      rw [hf45.1]
      show w.2.2.1 = gn g + 1
      rw [hd.2.2.2.1, hC.2 h4]⟩ (hd.M.tr (fun z h1 h2 => by rw [hf45.2 z (by omega), wset_ne _ _ _ _ (by omega)]; rfl))
  · refine a_bipush (7) hX dX7_tell_10 (by decide) ?_
    refine a_iret hX hR dX7_tell_12 ⟨Nat.le_refl _, Nat.le_refl _⟩ rfl ?_
    have h4 : gn g = 400 := by
      have h9 : ¬ gn g < 400 := fun z => c_7 (nI_lt z (by decide))
      omega
    have e9 : coS g e = (7, g) := if_pos h4
    rw [e9] at h
    exact h _ ⟨hd.1, fun z => absurd (show gn g < 400 from z) (by omega)⟩ hd.M
