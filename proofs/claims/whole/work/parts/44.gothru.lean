/-! the reference goes through the days of an order -/
theorem hsN_sp {PP : Nat → Nat → Int32} {c : Int32} {k d : Nat} : hsN PP c k d 12 = -1 ↔ spB PP c k d = false := by
  constructor
  · intro h
    cases hz : spB PP c k d
    · rfl
    · exfalso
      obtain ⟨s, hs, hp⟩ := spU_iff.mp hz
      obtain ⟨i, hi, hl⟩ := pk_least (fun s => (PP s 0 = c ∧ PP s 5 = -1 ∧ bt (PP s 4) k = true) ∧ ix (PP s 1) ≤ d ∧ d ≤ ix (PP s 2)) ⟨s, hp⟩
      have hi12 : i < 12 := Nat.lt_of_le_of_lt (Nat.not_lt.mp (fun q => hl s q hp)) hs
      rw [hsN_some hi12 hi hl hi12] at h
      exact nI_nm1 (by omega) h
  · intro h
    refine hsN_none (fun i hi hp => ?_)
    have : spB PP c k d = true := spU_iff.mpr ⟨i, hi, hp⟩
    rw [h] at this
    cases this
def gtX (PP : Nat → Nat → Int32) (hd : Nat → Bool) (k b e : Nat) : Nat → Bool := fun d => rawB PP hd k b d && decide (d ≤ e)
theorem runT_fst {ev : Nat} {is : Nat → Bool} {s0 : Nat × Nat × Nat} : ∀ n, (runT ev is s0 n).1 = s0.1 + fb_ct is n
  | 0 => rfl
  | n + 1 => by
    have h := runT_fst (ev := ev) (is := is) (s0 := s0) n
    rw [runT_succ, fb_ct_succ]
    unfold stT
    cases is n
    · simp [h]
    · simp [h]; omega
theorem runT_ev0 {is : Nat → Bool} {s0 : Nat × Nat × Nat} : ∀ n, (runT 0 is s0 n).2.1 = s0.2.1
  | 0 => rfl
  | n + 1 => by
    have h := runT_ev0 (is := is) (s0 := s0) n
    rw [runT_succ]
    unfold stT
    cases is n
    · simp [h]
    · simp [h]
theorem tl_succ (PP : Nat → Nat → Int32) (k : Nat) (is : Nat → Bool) (n : Nat) : tlN PP k is (n + 1) = stT (ix (PP k 6)) (is n) (tlN PP k is n) := rfl
/-- inside goThrough at day d: the end so far is e -/
def GI (w w2 : St) (PP : Nat → Nat → Int32) (hd : Nat → Bool) (k b d e : Nat) : Prop :=
  Fr w w2 (fun z => 238 ≤ z ∧ z ≤ 242) ∧ w2.1 238 = upd (w.1 238) k (nvI b) ∧ w2.1 239 = upd (w.1 239) k (nvI e) ∧
  ((e = 100000 ∧ ∀ x, x < d → ¬ endC PP hd k b x) ∨ (e < d ∧ e < 3600 ∧ endC PP hd k b e ∧ ∀ x, x < e → ¬ endC PP hd k b x)) ∧
  (∀ x, x < d → w2.1 240 (3600 * k + x) = (if gtX PP hd k b e x then 1 else 0) ∧ w2.1 241 (3600 * k + x) = nI (fb_ct (gtX PP hd k b e) (x + 1)) ∧ w2.1 242 (3600 * k + x) = nI (tkN (ix (PP k 6)) (mtN PP k) (tlN PP k (gtX PP hd k b e) (x + 1)).2.1 (tlN PP k (gtX PP hd k b e) (x + 1)).2.2)) ∧
  ∀ j, (j < 3600 * k ∨ 3600 * k + 3600 ≤ j) → w2.1 240 j = w.1 240 j ∧ w2.1 241 j = w.1 241 j ∧ w2.1 242 j = w.1 242 j
theorem gtX_cong {PP : Nat → Nat → Int32} {hd : Nat → Bool} {k b e e' x : Nat} (h : x ≤ e) (h' : x ≤ e') : gtX PP hd k b e x = gtX PP hd k b e' x := by
  unfold gtX
  rw [decide_eq_true h, decide_eq_true h']
theorem tl_cong {PP : Nat → Nat → Int32} {k : Nat} {is is' : Nat → Bool} {n : Nat} (h : ∀ x, x < n → is x = is' x) : tlN PP k is n = tlN PP k is' n := runT_cong h
theorem endC_gt {PP : Nat → Nat → Int32} {hd : Nat → Bool} {k b d : Nat} (hd3 : d < 3600) : endC PP hd k b d ↔ ndN PP k ≤ rcN (ix (PP k 6)) (mtN PP k) (ix (PP k 8)) (tlN PP k (gtX PP hd k b 100000) (d + 1)) := by
  unfold endC
  rw [tl_cong (is := rawB PP hd k b) (is' := gtX PP hd k b 100000) (fun x hx => by unfold gtX; rw [decide_eq_true (by omega), Bool.and_true])]
theorem GI_next {w w2 w3 : St} {PP : Nat → Nat → Int32} {hd : Nat → Bool} {k b d e : Nat} {vi vc vt : Int32} (h : GI w w2 PP hd k b d e) (hd3 : d < 3600) (hw : w3 = wset (wset (wset w2 240 (3600 * k + d) vi) 241 (3600 * k + d) vc) 242 (3600 * k + d) vt) (hvi : vi = if gtX PP hd k b e d then 1 else 0) (hvc : vc = nI (tlN PP k (gtX PP hd k b e) (d + 1)).1) (hvt : vt = nI (tkN (ix (PP k 6)) (mtN PP k) (tlN PP k (gtX PP hd k b e) (d + 1)).2.1 (tlN PP k (gtX PP hd k b e) (d + 1)).2.2)) :
    ((e = 100000 → ¬ endC PP hd k b d) → GI w w3 PP hd k b (d + 1) e) ∧ (e = 100000 → endC PP hd k b d → GI w (wset w3 239 k (nI d)) PP hd k b (d + 1) d) := by
  obtain ⟨a, b1, c, f, g, i⟩ := h
  have hct : (tlN PP k (gtX PP hd k b e) (d + 1)).1 = fb_ct (gtX PP hd k b e) (d + 1) := by
    unfold tlN
    rw [runT_fst]
    exact Nat.zero_add _
  have hcell : ∀ x, x < d + 1 → w3.1 240 (3600 * k + x) = (if gtX PP hd k b e x then 1 else 0) ∧ w3.1 241 (3600 * k + x) = nI (fb_ct (gtX PP hd k b e) (x + 1)) ∧ w3.1 242 (3600 * k + x) = nI (tkN (ix (PP k 6)) (mtN PP k) (tlN PP k (gtX PP hd k b e) (x + 1)).2.1 (tlN PP k (gtX PP hd k b e) (x + 1)).2.2) := by
    intro x hx
    rw [hw]
    simp only [wset_1]
    by_cases ex : x = d
    · subst ex
      simp
      rw [hvi, hvc, hvt, hct]
      exact ⟨rfl, rfl, rfl⟩
    · have e1 : ¬ (3600 * k + x = 3600 * k + d) := by omega
      simp [ex]
      exact g x (by omega)
  have hout : ∀ j, (j < 3600 * k ∨ 3600 * k + 3600 ≤ j) → w3.1 240 j = w.1 240 j ∧ w3.1 241 j = w.1 241 j ∧ w3.1 242 j = w.1 242 j := by
    intro j hj
    have e1 : ¬ (j = 3600 * k + d) := by omega
    rw [hw]
    simp only [wset_1]
    simp [e1]
    exact i j hj
  have hfr : Fr w w3 (fun z => 238 ≤ z ∧ z ≤ 242) := by
    rw [hw]
    exact Fr.set (Fr.set (Fr.set a (by omega)) (by omega)) (by omega)
  have h238 : w3.1 238 = upd (w.1 238) k (nvI b) := by
    rw [hw, wset_ne _ _ _ _ (by decide), wset_ne _ _ _ _ (by decide), wset_ne _ _ _ _ (by decide)]
    exact b1
  have h239 : w3.1 239 = upd (w.1 239) k (nvI e) := by
    rw [hw, wset_ne _ _ _ _ (by decide), wset_ne _ _ _ _ (by decide), wset_ne _ _ _ _ (by decide)]
    exact c
  refine ⟨fun hn => ⟨hfr, h238, h239, ?_, hcell, hout⟩, fun he hend => ⟨Fr.set hfr (by omega), by rw [wset_ne _ _ _ _ (by decide)]; exact h238, ?_, ?_, fun x hx => ?_, fun j hj => ?_⟩⟩
  · rcases f with ⟨f1, f2⟩ | ⟨f1, f2, f3, f4⟩
    · refine Or.inl ⟨f1, fun x hx => ?_⟩
      by_cases ex : x = d
      · subst ex; exact hn f1
      · exact f2 x (by omega)
    · exact Or.inr ⟨by omega, f2, f3, f4⟩
  · rw [wset_row, h239]
    funext x
    unfold upd
    by_cases ex : x = k
    · rw [if_pos ex, if_pos ex, nvI_lt (by omega)]
    · rw [if_neg ex, if_neg ex, if_neg ex]
  · rcases f with ⟨f1, f2⟩ | ⟨f1, f2, f3, f4⟩
    · exact Or.inr ⟨by omega, hd3, hend, f2⟩
    · omega
  · obtain ⟨p1, p2, p3⟩ := hcell x hx
    rw [wset_ne _ _ _ _ (by decide), wset_ne _ _ _ _ (by decide), wset_ne _ _ _ _ (by decide), p1, p2, p3]
    rw [he] at *
    refine ⟨?_, ?_, ?_⟩
    · rw [gtX_cong (e := 100000) (e' := d) (by omega) (by omega)]
    · rw [fb_ct_cong2 (fun y hy => gtX_cong (e := 100000) (e' := d) (by omega) (by omega))]
    · rw [tl_cong (is := gtX PP hd k b 100000) (is' := gtX PP hd k b d) (fun y hy => gtX_cong (by omega) (by omega))]
  · rw [wset_ne _ _ _ _ (by decide), wset_ne _ _ _ _ (by decide), wset_ne _ _ _ _ (by decide)]
    exact hout j hj
theorem mt_nI {PP : Nat → Nat → Int32} {k : Nat} (hv : vP PP) (hk : k < 12) : PP k 3 - (PP k 3 * PP k 7 + 999) / 1000 = nI (mtN PP k) := by
  obtain ⟨-, -, -, ⟨n, hn, en, -⟩, -, -, -, ⟨lf, hlf, el⟩, -⟩ := hv k hk
  have hm : n * lf ≤ n * 1000 := Nat.mul_le_mul_left n hlf
  unfold mtN
  rw [en, el, ix_nI (by omega), ix_nI (by omega), pk_mul, show nI (n * lf) + 999 = nI (n * lf + 999) from nI_add _ 999, show (nI (n * lf + 999)) / 1000 = nI ((n * lf + 999) / 1000) from pk_div (d := 1000) (by omega) (by decide) (by decide)]
  exact pk_sub (by omega)
abbrev T_X8_goThrough : Tr := fun lay av w Po => ∃ (S : RS) (P k : Nat) (mst : Int32) (be en : Nat → Nat), av = [.ref (lay 221), .int (nI P), .int (nI k), .int mst] ∧ (MP w S P) ∧ (gdS S) ∧ (P < 6) ∧ (k < 12) ∧ (stB (S.1 P) k = true) ∧ (∀ i, i < 12 → depB (S.1 P) k i = true → (w.1 238 i = nvI (be i) ∧ bdN (be i)) ∧ (w.1 239 i = nvI (en i) ∧ bdN (en i))) ∧ ∀ (w' : St) (e : Nat), GI w w' (S.1 P) (hdN S P mst) k (bgN (S.1 P) be en k) 3600 e → Po none w'
set_option maxRecDepth 100000 in
set_option maxHeartbeats 4000000 in
theorem c_X8_goThrough : Ct yX8_goThrough cX8_goThrough 12 none 3 0 0 T_X8_goThrough := by
  refine Ct.mk (by decide +kernel) ?_
  intro X av w Po hX hR hT
  obtain ⟨S, P, k, mst, be, en, rfl, hM, hg, hP, hk, hst, hbe, h⟩ := hT
  refine ⟨rfl, ?_⟩
  show A X 0 0 0 [some (.ref (xlay X 221)), some (.int (nI P)), some (.int (nI k)), some (.int mst), none, none, none, none, none, none, none, none] [] w
  have hv := (hg.1 P hP).1
  obtain ⟨b, hb⟩ : ∃ b, b = (bgN (S.1 P) be en k) := ⟨_, rfl⟩
  obtain ⟨-, -, -, ⟨n, hn, en3, hn1⟩, -, -, ⟨ev, hev, ee⟩, ⟨lf, hlf, el⟩, ⟨gv, hgv, eg⟩, -⟩ := hv k hk
  have hrk : 2 ≤ S.1 P k 0 ∧ S.1 P k 0 ≤ 5 := by
    have h9 := stB_runs hst
    unfold runsB at h9
    rw [decide_eq_true_eq] at h9
    exact h9
  obtain ⟨m0, m4, m6, m7, m8, m5, m1, m2, m3⟩ := hM.1 k hk
  have m3 := m3 hrk
  have hbd : bdN b := by rw [hb]; exact bdN_cut _
  have hmt := mtN_le hv hk
  have hix6 : ix (S.1 P k 6) = ev := by rw [ee]; exact ix_nI (by omega)
  refine a_aload_n hX dX8_goThrough_0 rfl ?_
  refine gf_X8_63 rfl hX dX8_goThrough_1 ?_
  refine a_iload_n hX dX8_goThrough_4 rfl ?_
  refine a_aload_n hX dX8_goThrough_5 rfl ?_
  refine a_iload_n hX dX8_goThrough_6 rfl ?_
  refine a_callV [_] hX c_X8_beginning mi_X8_beginning mv_X8_beginning se_X8_beginning (klt rfl (by decide)) (adr_lt (kd_lt rfl (by decide))) (cell_8 rfl) rfl li_X8_124 (by decide) rfl rfl (Nat.le_of_ble_eq_true rfl) (fun q => q) dX8_goThrough_7 ⟨_, _, be, en, rfl, hM.1, hv, hk, hst, hbe, ?_⟩
  rw [← hb]
  refine a_iast (k) hX rfl rfl (show _ < 12 by omega) dX8_goThrough_10 ?_
  refine a_aload_n hX dX8_goThrough_11 rfl ?_
  refine gf_X8_66 rfl hX dX8_goThrough_12 ?_
  refine a_iload_n hX dX8_goThrough_15 rfl ?_
  refine a_iconst (-1) hX dX8_goThrough_16 (by decide) ?_
  refine a_iast (k) hX rfl rfl (show _ < 12 by omega) dX8_goThrough_17 ?_
  refine a_iconst (0) hX dX8_goThrough_18 (by decide) ?_
  refine a_istore (ls' := [_, _, _, _, _, _, _, _, _, _, _, _]) hX dX8_goThrough_19 (Nat.le_of_ble_eq_true rfl) rfl ?_
  refine a_iconst (0) hX dX8_goThrough_21 (by decide) ?_
  refine a_istore (ls' := [_, _, _, _, _, _, _, _, _, _, _, _]) hX dX8_goThrough_22 (Nat.le_of_ble_eq_true rfl) rfl ?_
  refine a_iconst (0) hX dX8_goThrough_24 (by decide) ?_
  refine a_istore (ls' := [_, _, _, _, _, _, _, _, _, _, _, _]) hX dX8_goThrough_25 (Nat.le_of_ble_eq_true rfl) rfl ?_
  refine a_aload_n hX dX8_goThrough_27 rfl ?_
  refine gf_X8_29 rfl hX dX8_goThrough_28 ?_
  refine a_iload_n hX dX8_goThrough_31 rfl ?_
  refine a_iald (k) hX rfl rfl (show _ < 12 by omega) dX8_goThrough_32 ?_
  refine a_aload_n hX dX8_goThrough_33 rfl ?_
  refine gf_X8_29 rfl hX dX8_goThrough_34 ?_
  refine a_iload_n hX dX8_goThrough_37 rfl ?_
  refine a_iald (k) hX rfl rfl (show _ < 12 by omega) dX8_goThrough_38 ?_
  refine a_aload_n hX dX8_goThrough_39 rfl ?_
  refine gf_X8_38 rfl hX dX8_goThrough_40 ?_
  refine a_iload_n hX dX8_goThrough_43 rfl ?_
  refine a_iald (k) hX rfl rfl (show _ < 12 by omega) dX8_goThrough_44 ?_
  refine a_callS [_, _] hX c_X8_thousandths mi_X8_thousandths ms_X8_thousandths li_X8_128 (by decide) rfl rfl (Nat.le_of_ble_eq_true rfl) (fun q => q) dX8_goThrough_45 ⟨_, _, rfl, ?_⟩
  rw [show (wset (wset w 238 k (nvI b)) 239 k (-1)).1 227 k = S.1 P k 3 from by rw [wset_ne _ _ _ _ (by decide), wset_ne _ _ _ _ (by decide)]; exact m3, show (wset (wset w 238 k (nvI b)) 239 k (-1)).1 230 k = S.1 P k 7 from by rw [wset_ne _ _ _ _ (by decide), wset_ne _ _ _ _ (by decide)]; exact m7]
  refine a_isub hX dX8_goThrough_48 ?_
  rw [mt_nI hv hk]
  refine a_istore (ls' := [_, _, _, _, _, _, _, _, _, _, _, _]) hX dX8_goThrough_49 (Nat.le_of_ble_eq_true rfl) rfl ?_
  refine a_iconst (0) hX dX8_goThrough_51 (by decide) ?_
  refine a_istore (ls' := [_, _, _, _, _, _, _, _, _, _, _, _]) hX dX8_goThrough_52 (Nat.le_of_ble_eq_true rfl) rfl ?_
  have L54 : ∀ (fu : Nat) (d e : Nat) (w2 : St) (y9 y10 y11 : Option Value), 3600 - d < fu → (d ≤ 3600) → (GI w w2 (S.1 P) (hdN S P mst) k b d e) → A X 0 0 54 [some (.ref (xlay X 221)), some (.int (nI P)), some (.int (nI k)), some (.int mst), some (.int (nI (tlN (S.1 P) k (gtX (S.1 P) (hdN S P mst) k b e) d).1)), some (.int (nI (tlN (S.1 P) k (gtX (S.1 P) (hdN S P mst) k b e) d).2.1)), some (.int (nI (tlN (S.1 P) k (gtX (S.1 P) (hdN S P mst) k b e) d).2.2)), some (.int (nI (mtN (S.1 P) k))), some (.int (nI d)), y9, y10, y11] [] w2 := by
    intro fu
    induction fu with
    | zero => intro d e w2 y9 y10 y11 hmu; exact absurd hmu (Nat.not_lt_zero _)
    | succ fu ih =>
      intro d e w2 y9 y10 y11 hmu hd hI
      refine a_iload hX dX8_goThrough_54 rfl ?_
      refine a_sipush (3600) hX dX8_goThrough_56 (by decide) ?_
      refine a_icmp_ge 342 hX dX8_goThrough_59 (by decide) (fun c_59 => ?_) (fun c_59 => ?_)
      · refine a_vret hX hR dX8_goThrough_342 ⟨Nat.le_refl _, Nat.le_refl _⟩ ?_
        have hd36 : d = 3600 := by
          have := le_of_c (b := 3600) c_59 (by omega) (by omega)
          omega
        subst hd36
        rw [hb] at hI
        exact h _ _ hI
      · have hd36 : d < 3600 := lt_of_c (b := 3600) c_59 (by omega) (by omega)
        obtain ⟨hf2, h238, h239, hcs, hcell, hout⟩ := id hI
        have hM2 : MP w2 S P := hM.fr (fun z a b => hf2.2 z (by omega)) (by rw [hf2.2 221 (by omega)])
        have he2 : w2.1 239 k = nvI e := by rw [h239]; simp [upd]
        have hb2 : w2.1 238 k = nvI b := by rw [h238]; simp [upd]
        have hebd : bdN e := by
          unfold bdN
          rcases hcs with q | q <;> omega
        have hE := nvI_m1 hebd
        have hB := nvI_m1 hbd
        have hBl : ¬ nvI b = -1 → (nI d < nvI b ↔ d < b) := fun z => by
          have h9 : b ≠ 100000 := fun y => z (hB.mpr y)
          rw [nvI_lt h9]
          unfold bdN at hbd
          exact nI_ltI (by omega) (by omega)
        have hgd : (gtX (S.1 P) (hdN S P mst) k b e) d = (decide (e = 100000) && rawB (S.1 P) (hdN S P mst) k b d) := by
          unfold gtX
          rcases hcs with ⟨q, -⟩ | ⟨q1, q2, -⟩
          · rw [q, decide_eq_true (show d ≤ 100000 by omega), decide_eq_true rfl, Bool.and_true, Bool.true_and]
          · rw [decide_eq_false (show ¬ d ≤ e by omega), decide_eq_false (show ¬ e = 100000 by omega), Bool.and_false, Bool.false_and]
        have hs6 := hsN_sp (PP := (S.1 P)) (c := 6) (k := k) (d := d)
        have hs7 := hsN_sp (PP := (S.1 P)) (c := 7) (k := k) (d := d)
        unfold rawB at hgd
        have hbn : b ≠ 100000 ∨ ¬ b ≤ d := by
          by_cases hq : b = 100000
          · right; omega
          · exact Or.inl hq
        have w9 : ∀ z, z < 238 ∨ 242 < z → w2.1 z = w.1 z := fun z hz => hf2.2 z (by omega)
        have hTc : (tlN (S.1 P) k (gtX (S.1 P) (hdN S P mst) k b e) d).1 ≤ d := by
          have h9 := runT_cnt_le (ev := ix (S.1 P k 6)) (is := (gtX (S.1 P) (hdN S P mst) k b e)) (s0 := (0, 0, 0)) d
          have h8 : (0 : Nat) + d = d := Nat.zero_add d
          exact Nat.le_trans h9 (Nat.le_of_eq h8)
        have hokT : okT (tlN (S.1 P) k (gtX (S.1 P) (hdN S P mst) k b e) d) := okT_run (by unfold okT; decide) d
        have hts := tl_succ (S.1 P) k (gtX (S.1 P) (hdN S P mst) k b e) d
        have hev0 : ev = 0 → (tlN (S.1 P) k (gtX (S.1 P) (hdN S P mst) k b e) d).2.1 = 0 ∧ (tlN (S.1 P) k (gtX (S.1 P) (hdN S P mst) k b e) (d + 1)).2.1 = 0 := fun z => by
          unfold tlN
          rw [hix6, z, runT_ev0, runT_ev0]
          exact ⟨rfl, rfl⟩
        have J135 : A X 0 0 135 [some (.ref (xlay X 221)), some (.int (nI P)), some (.int (nI k)), some (.int mst), some (.int (nI (tlN (S.1 P) k (gtX (S.1 P) (hdN S P mst) k b e) d).1)), some (.int (nI (tlN (S.1 P) k (gtX (S.1 P) (hdN S P mst) k b e) d).2.1)), some (.int (nI (tlN (S.1 P) k (gtX (S.1 P) (hdN S P mst) k b e) d).2.2)), some (.int (nI (mtN (S.1 P) k))), some (.int (nI d)), y9, y10, y11] [.int (if (gtX (S.1 P) (hdN S P mst) k b e) d then 1 else 0)] w2 := by
          refine a_istore (ls' := [_, _, _, _, _, _, _, _, _, _, _, _]) hX dX8_goThrough_135 (Nat.le_of_ble_eq_true rfl) rfl ?_
          refine a_aload_n hX dX8_goThrough_137 rfl ?_
          refine gf_X8_70 rfl hX dX8_goThrough_138 ?_
          refine a_sipush (3600) hX dX8_goThrough_141 (by decide) ?_
          refine a_iload_n hX dX8_goThrough_144 rfl ?_
          refine a_imul hX dX8_goThrough_145 ?_
          refine a_iload hX dX8_goThrough_146 rfl ?_
          refine a_iadd hX dX8_goThrough_148 ?_
          refine a_iload hX dX8_goThrough_149 rfl ?_
          rw [n3600]
          refine a_zast (3600 * k + d) hX rfl rfl (show _ < 43200 by omega) (by split <;> rfl) dX8_goThrough_151 ?_
          refine a_iload hX dX8_goThrough_152 rfl ?_
          have J201 : ∀ (c r u : Int32), (c = nI (tlN (S.1 P) k (gtX (S.1 P) (hdN S P mst) k b e) (d + 1)).1) → (r = nI (tlN (S.1 P) k (gtX (S.1 P) (hdN S P mst) k b e) (d + 1)).2.1) → (u = nI (tlN (S.1 P) k (gtX (S.1 P) (hdN S P mst) k b e) (d + 1)).2.2) → A X 0 0 201 [some (.ref (xlay X 221)), some (.int (nI P)), some (.int (nI k)), some (.int mst), some (.int c), some (.int r), some (.int u), some (.int (nI (mtN (S.1 P) k))), some (.int (nI d)), some (.int (if (gtX (S.1 P) (hdN S P mst) k b e) d then 1 else 0)), y10, y11] [] (wset w2 240 (3600 * k + d) (if (gtX (S.1 P) (hdN S P mst) k b e) d then 1 else 0)) := by
            intro c r u hc hr hu
            have hu2 : (tlN (S.1 P) k (gtX (S.1 P) (hdN S P mst) k b e) (d + 1)).2.2 ≤ 3600 ∧ (tlN (S.1 P) k (gtX (S.1 P) (hdN S P mst) k b e) (d + 1)).2.1 ≤ 3600 := by
              have h9 := okT_run (ev := ix (S.1 P k 6)) (is := (gtX (S.1 P) (hdN S P mst) k b e)) (s0 := (0, 0, 0)) (by unfold okT; decide) (d + 1)
              have h8 := runT_cnt_le (ev := ix (S.1 P k 6)) (is := (gtX (S.1 P) (hdN S P mst) k b e)) (s0 := (0, 0, 0)) (d + 1)
              unfold okT at h9
              have h7 : (0 : Nat) + (d + 1) = d + 1 := Nat.zero_add _
              have e9 : (tlN (S.1 P) k (gtX (S.1 P) (hdN S P mst) k b e) (d + 1)) = runT (ix (S.1 P k 6)) (gtX (S.1 P) (hdN S P mst) k b e) (0, 0, 0) (d + 1) := rfl
              rw [e9]
              have h8 : (runT (ix (S.1 P k 6)) (gtX (S.1 P) (hdN S P mst) k b e) (0, 0, 0) (d + 1)).1 ≤ d + 1 := Nat.le_trans h8 (Nat.le_of_eq h7)
              omega
            have J244 : ∀ (t : Int32), (t = nI (tkN (ix (S.1 P k 6)) (mtN (S.1 P) k) (tlN (S.1 P) k (gtX (S.1 P) (hdN S P mst) k b e) (d + 1)).2.1 (tlN (S.1 P) k (gtX (S.1 P) (hdN S P mst) k b e) (d + 1)).2.2)) → A X 0 0 244 [some (.ref (xlay X 221)), some (.int (nI P)), some (.int (nI k)), some (.int mst), some (.int c), some (.int r), some (.int u), some (.int (nI (mtN (S.1 P) k))), some (.int (nI d)), some (.int (if (gtX (S.1 P) (hdN S P mst) k b e) d then 1 else 0)), some (.int t), y11] [] (wset w2 240 (3600 * k + d) (if (gtX (S.1 P) (hdN S P mst) k b e) d then 1 else 0)) := by
              intro t ht
              refine a_aload_n hX dX8_goThrough_244 rfl ?_
              refine gf_X8_73 rfl hX dX8_goThrough_245 ?_
              refine a_sipush (3600) hX dX8_goThrough_248 (by decide) ?_
              refine a_iload_n hX dX8_goThrough_251 rfl ?_
              refine a_imul hX dX8_goThrough_252 ?_
              refine a_iload hX dX8_goThrough_253 rfl ?_
              refine a_iadd hX dX8_goThrough_255 ?_
              refine a_iload hX dX8_goThrough_256 rfl ?_
              rw [n3600]
              refine a_iast (3600 * k + d) hX rfl rfl (show _ < 43200 by omega) dX8_goThrough_258 ?_
              refine a_aload_n hX dX8_goThrough_259 rfl ?_
              refine gf_X8_76 rfl hX dX8_goThrough_260 ?_
              refine a_sipush (3600) hX dX8_goThrough_263 (by decide) ?_
              refine a_iload_n hX dX8_goThrough_266 rfl ?_
              refine a_imul hX dX8_goThrough_267 ?_
              refine a_iload hX dX8_goThrough_268 rfl ?_
              refine a_iadd hX dX8_goThrough_270 ?_
              refine a_iload hX dX8_goThrough_271 rfl ?_
              rw [n3600]
              refine a_iast (3600 * k + d) hX rfl rfl (show _ < 43200 by omega) dX8_goThrough_273 ?_
              refine a_iload hX dX8_goThrough_274 rfl ?_
              refine a_aload_n hX dX8_goThrough_276 rfl ?_
              refine gf_X8_41 rfl hX dX8_goThrough_277 ?_
              refine a_iload_n hX dX8_goThrough_280 rfl ?_
              refine a_iald (k) hX rfl rfl (show _ < 12 by omega) dX8_goThrough_281 ?_
              rw [show (wset (wset (wset w2 240 (3600 * k + d) (if (gtX (S.1 P) (hdN S P mst) k b e) d then 1 else 0)) 241 (3600 * k + d) c) 242 (3600 * k + d) t).1 231 k = nI gv from by rw [wset_ne _ _ _ _ (by decide), wset_ne _ _ _ _ (by decide), wset_ne _ _ _ _ (by decide), w9 _ (by omega), m8]; exact eg]
              refine a_isub hX dX8_goThrough_282 ?_
              refine a_istore (ls' := [_, _, _, _, _, _, _, _, _, _, _, _]) hX dX8_goThrough_283 (Nat.le_of_ble_eq_true rfl) rfl ?_
              have hnx := GI_next (w3 := (wset (wset (wset w2 240 (3600 * k + d) (if (gtX (S.1 P) (hdN S P mst) k b e) d then 1 else 0)) 241 (3600 * k + d) c) 242 (3600 * k + d) t)) hI hd36 rfl rfl hc ht
              have hTK := tkN_le (ix (S.1 P k 6)) (mtN (S.1 P) k) (tlN (S.1 P) k (gtX (S.1 P) (hdN S P mst) k b e) (d + 1)).2.1 (tlN (S.1 P) k (gtX (S.1 P) (hdN S P mst) k b e) (d + 1)).2.2
              have hTC : (tlN (S.1 P) k (gtX (S.1 P) (hdN S P mst) k b e) (d + 1)).1 ≤ 3600 := by
                have h8 := runT_cnt_le (ev := ix (S.1 P k 6)) (is := (gtX (S.1 P) (hdN S P mst) k b e)) (s0 := (0, 0, 0)) (d + 1)
                have h7 : (0 : Nat) + (d + 1) = d + 1 := Nat.zero_add _
                have e9 : (tlN (S.1 P) k (gtX (S.1 P) (hdN S P mst) k b e) (d + 1)) = runT (ix (S.1 P k 6)) (gtX (S.1 P) (hdN S P mst) k b e) (0, 0, 0) (d + 1) := rfl
                rw [e9]
                exact Nat.le_trans (Nat.le_trans h8 (Nat.le_of_eq h7)) (by omega)
              have hix8 : ix (S.1 P k 8) = gv := by rw [eg]; exact ix_nI (by omega)
              have hix3 : ix (S.1 P k 3) = n := by rw [en3]; exact ix_nI (by omega)
              have hendc : e = 100000 → (endC (S.1 P) (hdN S P mst) k b d ↔ ndN (S.1 P) k ≤ (tlN (S.1 P) k (gtX (S.1 P) (hdN S P mst) k b e) (d + 1)).1 + ((tkN (ix (S.1 P k 6)) (mtN (S.1 P) k) (tlN (S.1 P) k (gtX (S.1 P) (hdN S P mst) k b e) (d + 1)).2.1 (tlN (S.1 P) k (gtX (S.1 P) (hdN S P mst) k b e) (d + 1)).2.2) - gv)) := fun z => by
                rw [endC_gt hd36, z, hix8]
                rfl
              have hlt : (t - nI gv).toInt = ((tkN (ix (S.1 P k 6)) (mtN (S.1 P) k) (tlN (S.1 P) k (gtX (S.1 P) (hdN S P mst) k b e) (d + 1)).2.1 (tlN (S.1 P) k (gtX (S.1 P) (hdN S P mst) k b e) (d + 1)).2.2) : Int) - gv := by
                rw [ht]
                exact pk_sub_toInt (by omega) (by omega)
              have hsum : c + (if 0 < t - nI gv then t - nI gv else 0) = nI ((tlN (S.1 P) k (gtX (S.1 P) (hdN S P mst) k b e) (d + 1)).1 + ((tkN (ix (S.1 P k 6)) (mtN (S.1 P) k) (tlN (S.1 P) k (gtX (S.1 P) (hdN S P mst) k b e) (d + 1)).2.1 (tlN (S.1 P) k (gtX (S.1 P) (hdN S P mst) k b e) (d + 1)).2.2) - gv)) := by
                have e0 : (0 : Int32).toInt = 0 := rfl
                by_cases hp : 0 < t - nI gv
                · rw [if_pos hp]
                  rw [Int32.lt_iff_toInt_lt, hlt, e0] at hp
                  rw [hc, ht, pk_sub (by omega), nI_add]
                · rw [if_neg hp]
                  rw [Int32.lt_iff_toInt_lt, hlt, e0] at hp
                  rw [hc, Int32.add_zero]
                  congr 1
                  omega
              refine a_aload_n hX dX8_goThrough_285 rfl ?_
              refine gf_X8_66 rfl hX dX8_goThrough_286 ?_
              refine a_iload_n hX dX8_goThrough_289 rfl ?_
              refine a_iald (k) hX rfl rfl (show _ < 12 by omega) dX8_goThrough_290 ?_
              rw [show (wset (wset (wset w2 240 (3600 * k + d) (if (gtX (S.1 P) (hdN S P mst) k b e) d then 1 else 0)) 241 (3600 * k + d) c) 242 (3600 * k + d) t).1 239 k = nvI e from by rw [wset_ne _ _ _ _ (by decide), wset_ne _ _ _ _ (by decide), wset_ne _ _ _ _ (by decide)]; exact he2]
              refine a_iconst (-1) hX dX8_goThrough_291 (by decide) ?_
              refine a_icmp_ne 336 hX dX8_goThrough_292 (by decide) (fun c_292 => ?_) (fun c_292 => ?_)
              · refine a_iinc (ls' := [_, _, _, _, _, _, _, _, _, _, _, _]) (nI (d + 1)) hX dX8_goThrough_336 rfl (nI_i1 d) rfl ?_
                refine a_goto 54 hX dX8_goThrough_339 (by decide) ?_
                subst hc hr hu
                refine ih (d + 1) e _ _ _ _ (by omega) (by omega) (hnx.1 (fun z hend => ?_))
                exact c_292 (hE.mpr z)
              · refine a_aload_n hX dX8_goThrough_295 rfl ?_
                refine gf_X8_20 rfl hX dX8_goThrough_296 ?_
                refine a_iload_n hX dX8_goThrough_299 rfl ?_
                refine a_iald (k) hX rfl rfl (show _ < 12 by omega) dX8_goThrough_300 ?_
                rw [show (wset (wset (wset w2 240 (3600 * k + d) (if (gtX (S.1 P) (hdN S P mst) k b e) d then 1 else 0)) 241 (3600 * k + d) c) 242 (3600 * k + d) t).1 224 k = S.1 P k 0 from by rw [wset_ne _ _ _ _ (by decide), wset_ne _ _ _ _ (by decide), wset_ne _ _ _ _ (by decide), w9 _ (by omega)]; exact m0]
                refine a_iconst (5) hX dX8_goThrough_301 (by decide) ?_
                refine a_icmp_eq 336 hX dX8_goThrough_302 (by decide) (fun c_302 => ?_) (fun c_302 => ?_)
                · refine a_iinc (ls' := [_, _, _, _, _, _, _, _, _, _, _, _]) (nI (d + 1)) hX dX8_goThrough_336 rfl (nI_i1 d) rfl ?_
                  refine a_goto 54 hX dX8_goThrough_339 (by decide) ?_
                  subst hc hr hu
                  refine ih (d + 1) e _ _ _ _ (by omega) (by omega) (hnx.1 (fun z hend => ?_))
                  have h5 := (hendc z).mp hend
                  unfold ndN at h5
                  rw [if_pos c_302] at h5
                  omega
                · refine a_iload hX dX8_goThrough_305 rfl ?_
                  refine a_iload hX dX8_goThrough_307 rfl ?_
                  refine a_if_le 317 hX dX8_goThrough_309 (by decide) (fun c_309 => ?_) (fun c_309 => ?_)
                  · refine a_iconst (0) hX dX8_goThrough_317 (by decide) ?_
                    refine a_iadd hX dX8_goThrough_318 ?_
                    refine a_aload_n hX dX8_goThrough_319 rfl ?_
                    refine gf_X8_29 rfl hX dX8_goThrough_320 ?_
                    refine a_iload_n hX dX8_goThrough_323 rfl ?_
                    refine a_iald (k) hX rfl rfl (show _ < 12 by omega) dX8_goThrough_324 ?_
                    rw [show (wset (wset (wset w2 240 (3600 * k + d) (if (gtX (S.1 P) (hdN S P mst) k b e) d then 1 else 0)) 241 (3600 * k + d) c) 242 (3600 * k + d) t).1 227 k = nI n from by rw [wset_ne _ _ _ _ (by decide), wset_ne _ _ _ _ (by decide), wset_ne _ _ _ _ (by decide), w9 _ (by omega), m3]; exact en3]
                    refine a_icmp_lt 336 hX dX8_goThrough_325 (by decide) (fun c_325 => ?_) (fun c_325 => ?_)
                    · refine a_iinc (ls' := [_, _, _, _, _, _, _, _, _, _, _, _]) (nI (d + 1)) hX dX8_goThrough_336 rfl (nI_i1 d) rfl ?_
                      refine a_goto 54 hX dX8_goThrough_339 (by decide) ?_
                      have he9 := hE.mp c_292
                      have hnd : ndN (S.1 P) k = n := by
                        unfold ndN
                        rw [if_neg c_302, hix3]
                      first
                      | (rw [if_neg (by first | exact Int32.not_lt.mpr c_309 | exact c_309)] at hsum
                         rw [hsum] at c_325)
                      | (rw [if_pos (lt_nle c_309)] at hsum
                         rw [hsum] at c_325)
                      subst hc hr hu
                      refine ih (d + 1) e _ _ _ _ (by omega) (by omega) (hnx.1 (fun z hend => ?_))
                      have h5 := (hendc he9).mp hend
                      rw [hnd] at h5
                      have h6 := (nI_ltI (by omega) (by omega)).mp c_325
                      omega
                    · refine a_aload_n hX dX8_goThrough_328 rfl ?_
                      refine gf_X8_66 rfl hX dX8_goThrough_329 ?_
                      refine a_iload_n hX dX8_goThrough_332 rfl ?_
                      refine a_iload hX dX8_goThrough_333 rfl ?_
                      refine a_iast (k) hX rfl rfl (show _ < 12 by omega) dX8_goThrough_335 ?_
                      refine a_iinc (ls' := [_, _, _, _, _, _, _, _, _, _, _, _]) (nI (d + 1)) hX dX8_goThrough_336 rfl (nI_i1 d) rfl ?_
                      refine a_goto 54 hX dX8_goThrough_339 (by decide) ?_
                      have he9 := hE.mp c_292
                      have hnd : ndN (S.1 P) k = n := by
                        unfold ndN
                        rw [if_neg c_302, hix3]
                      first
                      | (rw [if_neg (by first | exact Int32.not_lt.mpr c_309 | exact c_309)] at hsum
                         rw [hsum] at c_325)
                      | (rw [if_pos (lt_nle c_309)] at hsum
                         rw [hsum] at c_325)
                      have hend : endC (S.1 P) (hdN S P mst) k b d := by
                        rw [hendc he9, hnd]
                        have h6 : ¬ nI _ < nI n := c_325
                        rcases Nat.lt_or_ge ((tlN (S.1 P) k (gtX (S.1 P) (hdN S P mst) k b e) (d + 1)).1 + ((tkN (ix (S.1 P k 6)) (mtN (S.1 P) k) (tlN (S.1 P) k (gtX (S.1 P) (hdN S P mst) k b e) (d + 1)).2.1 (tlN (S.1 P) k (gtX (S.1 P) (hdN S P mst) k b e) (d + 1)).2.2) - gv)) n with q | q
                        · first | exact absurd (nI_lt q (by omega)) c_325 | exact absurd (nI_lt q (by omega)) (Int32.not_lt.mpr c_325)
                        · exact q
                      have hq9 : ∀ x, x ≤ d → (gtX (S.1 P) (hdN S P mst) k b e) x = (gtX (S.1 P) (hdN S P mst) k b d) x := fun x hx => gtX_cong (by omega) (by omega)
                      have h9 := ih (d + 1) d _ (some (.int (if (gtX (S.1 P) (hdN S P mst) k b e) d then 1 else 0))) (some (.int t)) (some (.int (t - nI gv))) (by omega) (by omega) (hnx.2 he9 hend)
                      rw [← tl_cong (n := d + 1) (fun x hx => hq9 x (by omega)), ← hc, ← hr, ← hu] at h9
                      exact h9
                  · refine a_iload hX dX8_goThrough_312 rfl ?_
                    refine a_goto 318 hX dX8_goThrough_314 (by decide) ?_
                    refine a_iadd hX dX8_goThrough_318 ?_
                    refine a_aload_n hX dX8_goThrough_319 rfl ?_
                    refine gf_X8_29 rfl hX dX8_goThrough_320 ?_
                    refine a_iload_n hX dX8_goThrough_323 rfl ?_
                    refine a_iald (k) hX rfl rfl (show _ < 12 by omega) dX8_goThrough_324 ?_
                    rw [show (wset (wset (wset w2 240 (3600 * k + d) (if (gtX (S.1 P) (hdN S P mst) k b e) d then 1 else 0)) 241 (3600 * k + d) c) 242 (3600 * k + d) t).1 227 k = nI n from by rw [wset_ne _ _ _ _ (by decide), wset_ne _ _ _ _ (by decide), wset_ne _ _ _ _ (by decide), w9 _ (by omega), m3]; exact en3]
                    refine a_icmp_lt 336 hX dX8_goThrough_325 (by decide) (fun c_325 => ?_) (fun c_325 => ?_)
                    · refine a_iinc (ls' := [_, _, _, _, _, _, _, _, _, _, _, _]) (nI (d + 1)) hX dX8_goThrough_336 rfl (nI_i1 d) rfl ?_
                      refine a_goto 54 hX dX8_goThrough_339 (by decide) ?_
                      have he9 := hE.mp c_292
                      have hnd : ndN (S.1 P) k = n := by
                        unfold ndN
                        rw [if_neg c_302, hix3]
                      first
                      | (rw [if_neg (by first | exact Int32.not_lt.mpr c_309 | exact c_309)] at hsum
                         rw [hsum] at c_325)
                      | (rw [if_pos (lt_nle c_309)] at hsum
                         rw [hsum] at c_325)
                      subst hc hr hu
                      refine ih (d + 1) e _ _ _ _ (by omega) (by omega) (hnx.1 (fun z hend => ?_))
                      have h5 := (hendc he9).mp hend
                      rw [hnd] at h5
                      have h6 := (nI_ltI (by omega) (by omega)).mp c_325
                      omega
                    · refine a_aload_n hX dX8_goThrough_328 rfl ?_
                      refine gf_X8_66 rfl hX dX8_goThrough_329 ?_
                      refine a_iload_n hX dX8_goThrough_332 rfl ?_
                      refine a_iload hX dX8_goThrough_333 rfl ?_
                      refine a_iast (k) hX rfl rfl (show _ < 12 by omega) dX8_goThrough_335 ?_
                      refine a_iinc (ls' := [_, _, _, _, _, _, _, _, _, _, _, _]) (nI (d + 1)) hX dX8_goThrough_336 rfl (nI_i1 d) rfl ?_
                      refine a_goto 54 hX dX8_goThrough_339 (by decide) ?_
                      have he9 := hE.mp c_292
                      have hnd : ndN (S.1 P) k = n := by
                        unfold ndN
                        rw [if_neg c_302, hix3]
                      first
                      | (rw [if_neg (by first | exact Int32.not_lt.mpr c_309 | exact c_309)] at hsum
                         rw [hsum] at c_325)
                      | (rw [if_pos (lt_nle c_309)] at hsum
                         rw [hsum] at c_325)
                      have hend : endC (S.1 P) (hdN S P mst) k b d := by
                        rw [hendc he9, hnd]
                        have h6 : ¬ nI _ < nI n := c_325
                        rcases Nat.lt_or_ge ((tlN (S.1 P) k (gtX (S.1 P) (hdN S P mst) k b e) (d + 1)).1 + ((tkN (ix (S.1 P k 6)) (mtN (S.1 P) k) (tlN (S.1 P) k (gtX (S.1 P) (hdN S P mst) k b e) (d + 1)).2.1 (tlN (S.1 P) k (gtX (S.1 P) (hdN S P mst) k b e) (d + 1)).2.2) - gv)) n with q | q
                        · first | exact absurd (nI_lt q (by omega)) c_325 | exact absurd (nI_lt q (by omega)) (Int32.not_lt.mpr c_325)
                        · exact q
                      have hq9 : ∀ x, x ≤ d → (gtX (S.1 P) (hdN S P mst) k b e) x = (gtX (S.1 P) (hdN S P mst) k b d) x := fun x hx => gtX_cong (by omega) (by omega)
                      have h9 := ih (d + 1) d _ (some (.int (if (gtX (S.1 P) (hdN S P mst) k b e) d then 1 else 0))) (some (.int t)) (some (.int (t - nI gv))) (by omega) (by omega) (hnx.2 he9 hend)
                      rw [← tl_cong (n := d + 1) (fun x hx => hq9 x (by omega)), ← hc, ← hr, ← hu] at h9
                      exact h9
            refine a_iload hX dX8_goThrough_201 rfl ?_
            refine a_aload_n hX dX8_goThrough_203 rfl ?_
            refine gf_X8_35 rfl hX dX8_goThrough_204 ?_
            refine a_iload_n hX dX8_goThrough_207 rfl ?_
            refine a_iald (k) hX rfl rfl (show _ < 12 by omega) dX8_goThrough_208 ?_
            rw [show (wset w2 240 (3600 * k + d) (if (gtX (S.1 P) (hdN S P mst) k b e) d then 1 else 0)).1 229 k = nI ev from by rw [wset_ne _ _ _ _ (by decide), w9 _ (by omega), m6]; exact ee]
            refine a_if_le 224 hX dX8_goThrough_209 (by decide) (fun c_209 => ?_) (fun c_209 => ?_)
            · refine a_iconst (0) hX dX8_goThrough_224 (by decide) ?_
              refine a_iadd hX dX8_goThrough_225 ?_
              refine a_istore (ls' := [_, _, _, _, _, _, _, _, _, _, _, _]) hX dX8_goThrough_226 (Nat.le_of_ble_eq_true rfl) rfl ?_
              refine a_iload hX dX8_goThrough_228 rfl ?_
              refine a_iload hX dX8_goThrough_230 rfl ?_
              refine a_icmp_le 240 hX dX8_goThrough_232 (by decide) (fun c_232 => ?_) (fun c_232 => ?_)
              · refine a_iload hX dX8_goThrough_240 rfl ?_
                refine a_istore (ls' := [_, _, _, _, _, _, _, _, _, _, _, _]) hX dX8_goThrough_242 (Nat.le_of_ble_eq_true rfl) rfl ?_
                refine J244 _ ?_
                have hev9 : ev = 0 := by
                  have h9 : ¬ (nI 0 < nI ev) := fun z => absurd c_209 (Int32.not_le.mpr z)
                  rw [nI_ltI (by decide) (by omega)] at h9
                  omega
                have h1 := (hev0 hev9).2
                unfold tkN
                rw [hix6, hev9, if_neg (by omega)]
                first
                | (rw [hr, h1]; rfl)
                | exact absurd (show r + 0 ≤ nI (mtN (S.1 P) k) by rw [hr, h1]; exact nI_le (a := 0) (by omega) (by omega)) c_232
              · refine a_iload hX dX8_goThrough_235 rfl ?_
                refine a_goto 242 hX dX8_goThrough_237 (by decide) ?_
                refine a_istore (ls' := [_, _, _, _, _, _, _, _, _, _, _, _]) hX dX8_goThrough_242 (Nat.le_of_ble_eq_true rfl) rfl ?_
                refine J244 _ ?_
                have hev9 : ev = 0 := by
                  have h9 : ¬ (nI 0 < nI ev) := fun z => absurd c_209 (Int32.not_le.mpr z)
                  rw [nI_ltI (by decide) (by omega)] at h9
                  omega
                have h1 := (hev0 hev9).2
                unfold tkN
                rw [hix6, hev9, if_neg (by omega)]
                first
                | (rw [hr, h1]; rfl)
                | exact absurd (show r + 0 ≤ nI (mtN (S.1 P) k) by rw [hr, h1]; exact nI_le (a := 0) (by omega) (by omega)) c_232
            · refine a_iload hX dX8_goThrough_212 rfl ?_
              refine a_aload_n hX dX8_goThrough_214 rfl ?_
              refine gf_X8_35 rfl hX dX8_goThrough_215 ?_
              refine a_iload_n hX dX8_goThrough_218 rfl ?_
              refine a_iald (k) hX rfl rfl (show _ < 12 by omega) dX8_goThrough_219 ?_
              rw [show (wset w2 240 (3600 * k + d) (if (gtX (S.1 P) (hdN S P mst) k b e) d then 1 else 0)).1 229 k = nI ev from by rw [wset_ne _ _ _ _ (by decide), w9 _ (by omega), m6]; exact ee]
              have hevp : 0 < ev := (nI_ltI (a := 0) (by decide) (by omega)).mp (lt_nle c_209)
              refine a_idiv hX dX8_goThrough_220 (fun z => by have := (nI_eq (a := ev) (b := 0) (by omega) (by decide)).mp z; omega) ?_
              refine a_goto 225 hX dX8_goThrough_221 (by decide) ?_
              refine a_iadd hX dX8_goThrough_225 ?_
              refine a_istore (ls' := [_, _, _, _, _, _, _, _, _, _, _, _]) hX dX8_goThrough_226 (Nat.le_of_ble_eq_true rfl) rfl ?_
              refine a_iload hX dX8_goThrough_228 rfl ?_
              refine a_iload hX dX8_goThrough_230 rfl ?_
              refine a_icmp_le 240 hX dX8_goThrough_232 (by decide) (fun c_232 => ?_) (fun c_232 => ?_)
              · refine a_iload hX dX8_goThrough_240 rfl ?_
                refine a_istore (ls' := [_, _, _, _, _, _, _, _, _, _, _, _]) hX dX8_goThrough_242 (Nat.le_of_ble_eq_true rfl) rfl ?_
                refine J244 _ ?_
                have hq : (tlN (S.1 P) k (gtX (S.1 P) (hdN S P mst) k b e) (d + 1)).2.2 / ev ≤ 3600 := Nat.le_trans (Nat.div_le_self _ _) hu2.1
                unfold tkN
                rw [hix6, if_pos hevp]
                rw [hr, hu, pk_div (by omega) hevp (by omega), nI_add, nI_leI (by omega) (by omega)] at c_232
                first
                | (rw [hr, hu, pk_div (by omega) hevp (by omega), nI_add, Nat.min_eq_right (by omega)])
                | rw [Nat.min_eq_left (by omega)]
              · refine a_iload hX dX8_goThrough_235 rfl ?_
                refine a_goto 242 hX dX8_goThrough_237 (by decide) ?_
                refine a_istore (ls' := [_, _, _, _, _, _, _, _, _, _, _, _]) hX dX8_goThrough_242 (Nat.le_of_ble_eq_true rfl) rfl ?_
                refine J244 _ ?_
                have hq : (tlN (S.1 P) k (gtX (S.1 P) (hdN S P mst) k b e) (d + 1)).2.2 / ev ≤ 3600 := Nat.le_trans (Nat.div_le_self _ _) hu2.1
                unfold tkN
                rw [hix6, if_pos hevp]
                rw [hr, hu, pk_div (by omega) hevp (by omega), nI_add, nI_leI (by omega) (by omega)] at c_232
                first
                | (rw [hr, hu, pk_div (by omega) hevp (by omega), nI_add, Nat.min_eq_right (by omega)])
                | rw [Nat.min_eq_left (by omega)]
          refine a_if_eq 166 hX dX8_goThrough_154 (by decide) (fun c_154 => ?_) (fun c_154 => ?_)
          · have hgf : (gtX (S.1 P) (hdN S P mst) k b e) d = false := by
              cases hz : (gtX (S.1 P) (hdN S P mst) k b e) d
              · rfl
              · rw [hz] at c_154
                exact absurd c_154 (by decide)
            have hun : (tlN (S.1 P) k (gtX (S.1 P) (hdN S P mst) k b e) d).2.2 ≤ 3600 := by unfold okT at hokT; omega
            have hcl : (tlN (S.1 P) k (gtX (S.1 P) (hdN S P mst) k b e) d).2.1 ≤ 3600 := by unfold okT at hokT; omega
            have h0u : (nI (tlN (S.1 P) k (gtX (S.1 P) (hdN S P mst) k b e) d).2.2 ≤ 0) ↔ (tlN (S.1 P) k (gtX (S.1 P) (hdN S P mst) k b e) d).2.2 = 0 := by
              have h9 : nI (tlN (S.1 P) k (gtX (S.1 P) (hdN S P mst) k b e) d).2.2 ≤ nI 0 ↔ (tlN (S.1 P) k (gtX (S.1 P) (hdN S P mst) k b e) d).2.2 ≤ 0 := nI_leI (by omega) (by decide)
              exact h9.trans (by omega)
            have hts1 : (tlN (S.1 P) k (gtX (S.1 P) (hdN S P mst) k b e) (d + 1)) = ((tlN (S.1 P) k (gtX (S.1 P) (hdN S P mst) k b e) d).1, (if 0 < ev then (tlN (S.1 P) k (gtX (S.1 P) (hdN S P mst) k b e) d).2.1 + (tlN (S.1 P) k (gtX (S.1 P) (hdN S P mst) k b e) d).2.2 / ev else (tlN (S.1 P) k (gtX (S.1 P) (hdN S P mst) k b e) d).2.1), 0) := by
              rw [hts, hgf, hix6]
              rfl
            refine a_iload hX dX8_goThrough_166 rfl ?_
            refine a_if_le 201 hX dX8_goThrough_168 (by decide) (fun c_168 => ?_) (fun c_168 => ?_)
            · have hu2 : (tlN (S.1 P) k (gtX (S.1 P) (hdN S P mst) k b e) (d + 1)).2.2 ≤ 3600 ∧ (tlN (S.1 P) k (gtX (S.1 P) (hdN S P mst) k b e) (d + 1)).2.1 ≤ 3600 := by
                have h9 := okT_run (ev := ix (S.1 P k 6)) (is := (gtX (S.1 P) (hdN S P mst) k b e)) (s0 := (0, 0, 0)) (by unfold okT; decide) (d + 1)
                have h8 := runT_cnt_le (ev := ix (S.1 P k 6)) (is := (gtX (S.1 P) (hdN S P mst) k b e)) (s0 := (0, 0, 0)) (d + 1)
                unfold okT at h9
                have h7 : (0 : Nat) + (d + 1) = d + 1 := Nat.zero_add _
                have e9 : (tlN (S.1 P) k (gtX (S.1 P) (hdN S P mst) k b e) (d + 1)) = runT (ix (S.1 P k 6)) (gtX (S.1 P) (hdN S P mst) k b e) (0, 0, 0) (d + 1) := rfl
                rw [e9]
                have h8 : (runT (ix (S.1 P k 6)) (gtX (S.1 P) (hdN S P mst) k b e) (0, 0, 0) (d + 1)).1 ≤ d + 1 := Nat.le_trans h8 (Nat.le_of_eq h7)
                omega
              have hu0 := h0u.mp c_168
              refine J201 _ _ _ ?_ ?_ ?_
              · rw [hts1]
              · rw [hts1, hu0]
                congr 1
                show _ = (if 0 < ev then (tlN (S.1 P) k (gtX (S.1 P) (hdN S P mst) k b e) d).2.1 + 0 / ev else (tlN (S.1 P) k (gtX (S.1 P) (hdN S P mst) k b e) d).2.1)
                rw [Nat.zero_div, Nat.add_zero]
                split <;> rfl
              · rw [hts1, hu0]
            · refine a_iload hX dX8_goThrough_171 rfl ?_
              refine a_aload_n hX dX8_goThrough_173 rfl ?_
              refine gf_X8_35 rfl hX dX8_goThrough_174 ?_
              refine a_iload_n hX dX8_goThrough_177 rfl ?_
              refine a_iald (k) hX rfl rfl (show _ < 12 by omega) dX8_goThrough_178 ?_
              rw [show (wset w2 240 (3600 * k + d) (if (gtX (S.1 P) (hdN S P mst) k b e) d then 1 else 0)).1 229 k = nI ev from by rw [wset_ne _ _ _ _ (by decide), w9 _ (by omega), m6]; exact ee]
              refine a_if_le 194 hX dX8_goThrough_179 (by decide) (fun c_179 => ?_) (fun c_179 => ?_)
              · refine a_iconst (0) hX dX8_goThrough_194 (by decide) ?_
                refine a_iadd hX dX8_goThrough_195 ?_
                refine a_istore (ls' := [_, _, _, _, _, _, _, _, _, _, _, _]) hX dX8_goThrough_196 (Nat.le_of_ble_eq_true rfl) rfl ?_
                refine a_iconst (0) hX dX8_goThrough_198 (by decide) ?_
                refine a_istore (ls' := [_, _, _, _, _, _, _, _, _, _, _, _]) hX dX8_goThrough_199 (Nat.le_of_ble_eq_true rfl) rfl ?_
                have hu2 : (tlN (S.1 P) k (gtX (S.1 P) (hdN S P mst) k b e) (d + 1)).2.2 ≤ 3600 ∧ (tlN (S.1 P) k (gtX (S.1 P) (hdN S P mst) k b e) (d + 1)).2.1 ≤ 3600 := by
                  have h9 := okT_run (ev := ix (S.1 P k 6)) (is := (gtX (S.1 P) (hdN S P mst) k b e)) (s0 := (0, 0, 0)) (by unfold okT; decide) (d + 1)
                  have h8 := runT_cnt_le (ev := ix (S.1 P k 6)) (is := (gtX (S.1 P) (hdN S P mst) k b e)) (s0 := (0, 0, 0)) (d + 1)
                  unfold okT at h9
                  have h7 : (0 : Nat) + (d + 1) = d + 1 := Nat.zero_add _
                  have e9 : (tlN (S.1 P) k (gtX (S.1 P) (hdN S P mst) k b e) (d + 1)) = runT (ix (S.1 P k 6)) (gtX (S.1 P) (hdN S P mst) k b e) (0, 0, 0) (d + 1) := rfl
                  rw [e9]
                  have h8 : (runT (ix (S.1 P k 6)) (gtX (S.1 P) (hdN S P mst) k b e) (0, 0, 0) (d + 1)).1 ≤ d + 1 := Nat.le_trans h8 (Nat.le_of_eq h7)
                  omega
                refine J201 _ _ _ ?_ ?_ ?_
                · rw [hts1]
                · rw [hts1]
                  first
                  | (have hev9 : ev = 0 := by
                       have h9 : ¬ (nI 0 < nI ev) := fun z => absurd c_179 (Int32.not_le.mpr z)
                       rw [nI_ltI (by decide) (by omega)] at h9
                       omega
                     rw [hev9, if_neg (by omega)]
                     exact Int32.add_zero _)
                  | (rw [pk_div (by omega) hevp (by omega), nI_add, if_pos hevp])
                · rw [hts1]
                  rfl
              · refine a_iload hX dX8_goThrough_182 rfl ?_
                refine a_aload_n hX dX8_goThrough_184 rfl ?_
                refine gf_X8_35 rfl hX dX8_goThrough_185 ?_
                refine a_iload_n hX dX8_goThrough_188 rfl ?_
                refine a_iald (k) hX rfl rfl (show _ < 12 by omega) dX8_goThrough_189 ?_
                rw [show (wset w2 240 (3600 * k + d) (if (gtX (S.1 P) (hdN S P mst) k b e) d then 1 else 0)).1 229 k = nI ev from by rw [wset_ne _ _ _ _ (by decide), w9 _ (by omega), m6]; exact ee]
                have hevp : 0 < ev := (nI_ltI (a := 0) (by decide) (by omega)).mp (lt_nle c_179)
                refine a_idiv hX dX8_goThrough_190 (fun z => by have := (nI_eq (a := ev) (b := 0) (by omega) (by decide)).mp z; omega) ?_
                refine a_goto 195 hX dX8_goThrough_191 (by decide) ?_
                refine a_iadd hX dX8_goThrough_195 ?_
                refine a_istore (ls' := [_, _, _, _, _, _, _, _, _, _, _, _]) hX dX8_goThrough_196 (Nat.le_of_ble_eq_true rfl) rfl ?_
                refine a_iconst (0) hX dX8_goThrough_198 (by decide) ?_
                refine a_istore (ls' := [_, _, _, _, _, _, _, _, _, _, _, _]) hX dX8_goThrough_199 (Nat.le_of_ble_eq_true rfl) rfl ?_
                have hu2 : (tlN (S.1 P) k (gtX (S.1 P) (hdN S P mst) k b e) (d + 1)).2.2 ≤ 3600 ∧ (tlN (S.1 P) k (gtX (S.1 P) (hdN S P mst) k b e) (d + 1)).2.1 ≤ 3600 := by
                  have h9 := okT_run (ev := ix (S.1 P k 6)) (is := (gtX (S.1 P) (hdN S P mst) k b e)) (s0 := (0, 0, 0)) (by unfold okT; decide) (d + 1)
                  have h8 := runT_cnt_le (ev := ix (S.1 P k 6)) (is := (gtX (S.1 P) (hdN S P mst) k b e)) (s0 := (0, 0, 0)) (d + 1)
                  unfold okT at h9
                  have h7 : (0 : Nat) + (d + 1) = d + 1 := Nat.zero_add _
                  have e9 : (tlN (S.1 P) k (gtX (S.1 P) (hdN S P mst) k b e) (d + 1)) = runT (ix (S.1 P k 6)) (gtX (S.1 P) (hdN S P mst) k b e) (0, 0, 0) (d + 1) := rfl
                  rw [e9]
                  have h8 : (runT (ix (S.1 P k 6)) (gtX (S.1 P) (hdN S P mst) k b e) (0, 0, 0) (d + 1)).1 ≤ d + 1 := Nat.le_trans h8 (Nat.le_of_eq h7)
                  omega
                refine J201 _ _ _ ?_ ?_ ?_
                · rw [hts1]
                · rw [hts1]
                  first
                  | (have hev9 : ev = 0 := by
                       have h9 : ¬ (nI 0 < nI ev) := fun z => absurd c_179 (Int32.not_le.mpr z)
                       rw [nI_ltI (by decide) (by omega)] at h9
                       omega
                     rw [hev9, if_neg (by omega)]
                     exact Int32.add_zero _)
                  | (rw [pk_div (by omega) hevp (by omega), nI_add, if_pos hevp])
                · rw [hts1]
                  rfl
          · refine a_iinc (ls' := [_, _, _, _, _, _, _, _, _, _, _, _]) ((nI (tlN (S.1 P) k (gtX (S.1 P) (hdN S P mst) k b e) d).1 + 1)) hX dX8_goThrough_157 rfl rfl rfl ?_
            refine a_iinc (ls' := [_, _, _, _, _, _, _, _, _, _, _, _]) ((nI (tlN (S.1 P) k (gtX (S.1 P) (hdN S P mst) k b e) d).2.2 + 1)) hX dX8_goThrough_160 rfl rfl rfl ?_
            refine a_goto 201 hX dX8_goThrough_163 (by decide) ?_
            have hu2 : (tlN (S.1 P) k (gtX (S.1 P) (hdN S P mst) k b e) (d + 1)).2.2 ≤ 3600 ∧ (tlN (S.1 P) k (gtX (S.1 P) (hdN S P mst) k b e) (d + 1)).2.1 ≤ 3600 := by
              have h9 := okT_run (ev := ix (S.1 P k 6)) (is := (gtX (S.1 P) (hdN S P mst) k b e)) (s0 := (0, 0, 0)) (by unfold okT; decide) (d + 1)
              have h8 := runT_cnt_le (ev := ix (S.1 P k 6)) (is := (gtX (S.1 P) (hdN S P mst) k b e)) (s0 := (0, 0, 0)) (d + 1)
              unfold okT at h9
              have h7 : (0 : Nat) + (d + 1) = d + 1 := Nat.zero_add _
              have e9 : (tlN (S.1 P) k (gtX (S.1 P) (hdN S P mst) k b e) (d + 1)) = runT (ix (S.1 P k 6)) (gtX (S.1 P) (hdN S P mst) k b e) (0, 0, 0) (d + 1) := rfl
              rw [e9]
              have h8 : (runT (ix (S.1 P k 6)) (gtX (S.1 P) (hdN S P mst) k b e) (0, 0, 0) (d + 1)).1 ≤ d + 1 := Nat.le_trans h8 (Nat.le_of_eq h7)
              omega
            have hgt : (gtX (S.1 P) (hdN S P mst) k b e) d = true := by
              cases hz : (gtX (S.1 P) (hdN S P mst) k b e) d
              · rw [hz] at c_154
                exact absurd rfl c_154
              · rfl
            refine J201 _ _ _ ?_ ?_ ?_
            · rw [hts, hgt, nI_1]
              rfl
            · rw [hts, hgt]
              rfl
            · rw [hts, hgt, nI_1]
              rfl
        refine a_aload_n hX dX8_goThrough_62 rfl ?_
        refine gf_X8_66 rfl hX dX8_goThrough_63 ?_
        refine a_iload_n hX dX8_goThrough_66 rfl ?_
        refine a_iald (k) hX rfl rfl (show _ < 12 by omega) dX8_goThrough_67 ?_
        rw [he2]
        refine a_iconst (-1) hX dX8_goThrough_68 (by decide) ?_
        refine a_icmp_ne 134 hX dX8_goThrough_69 (by decide) (fun c_69 => ?_) (fun c_69 => ?_)
        · refine a_iconst (0) hX dX8_goThrough_134 (by decide) ?_
          first
          | (have hz : (gtX (S.1 P) (hdN S P mst) k b e) d = true := by grind
             rw [hz] at J135
             exact J135)
          | (have hz : (gtX (S.1 P) (hdN S P mst) k b e) d = false := by grind
             rw [hz] at J135
             exact J135)
        · refine a_aload_n hX dX8_goThrough_72 rfl ?_
          refine a_bipush (6) hX dX8_goThrough_73 (by decide) ?_
          refine a_iload_n hX dX8_goThrough_75 rfl ?_
          refine a_iload hX dX8_goThrough_76 rfl ?_
          refine a_callV [_, _, _] hX c_X8_has mi_X8_has mv_X8_has se_X8_has (klt rfl (by decide)) (adr_lt (kd_lt rfl (by decide))) (cell_8 rfl) rfl li_X8_132 (by decide) rfl rfl (Nat.le_of_ble_eq_true rfl) (fun q => q) dX8_goThrough_78 ⟨(S.1 P), _, _, _, rfl, hM2.1, hv, hk, hd36, (Or.inl rfl), ?_⟩
          refine a_iconst (-1) hX dX8_goThrough_81 (by decide) ?_
          refine a_icmp_ne 134 hX dX8_goThrough_82 (by decide) (fun c_82 => ?_) (fun c_82 => ?_)
          · refine a_iconst (0) hX dX8_goThrough_134 (by decide) ?_
            first
            | (have hz : (gtX (S.1 P) (hdN S P mst) k b e) d = true := by grind
               rw [hz] at J135
               exact J135)
            | (have hz : (gtX (S.1 P) (hdN S P mst) k b e) d = false := by grind
               rw [hz] at J135
               exact J135)
          · refine a_aload_n hX dX8_goThrough_85 rfl ?_
            refine a_bipush (7) hX dX8_goThrough_86 (by decide) ?_
            refine a_iload_n hX dX8_goThrough_88 rfl ?_
            refine a_iload hX dX8_goThrough_89 rfl ?_
            refine a_callV [_, _, _] hX c_X8_has mi_X8_has mv_X8_has se_X8_has (klt rfl (by decide)) (adr_lt (kd_lt rfl (by decide))) (cell_8 rfl) rfl li_X8_132 (by decide) rfl rfl (Nat.le_of_ble_eq_true rfl) (fun q => q) dX8_goThrough_91 ⟨(S.1 P), _, _, _, rfl, hM2.1, hv, hk, hd36, (Or.inr rfl), ?_⟩
            refine a_iconst (-1) hX dX8_goThrough_94 (by decide) ?_
            refine a_icmp_ne 130 hX dX8_goThrough_95 (by decide) (fun c_95 => ?_) (fun c_95 => ?_)
            · refine a_iconst (1) hX dX8_goThrough_130 (by decide) ?_
              refine a_goto 135 hX dX8_goThrough_131 (by decide) ?_
              first
              | (have hz : (gtX (S.1 P) (hdN S P mst) k b e) d = true := by grind
                 rw [hz] at J135
                 exact J135)
              | (have hz : (gtX (S.1 P) (hdN S P mst) k b e) d = false := by grind
                 rw [hz] at J135
                 exact J135)
            · refine a_aload_n hX dX8_goThrough_98 rfl ?_
              refine gf_X8_63 rfl hX dX8_goThrough_99 ?_
              refine a_iload_n hX dX8_goThrough_102 rfl ?_
              refine a_iald (k) hX rfl rfl (show _ < 12 by omega) dX8_goThrough_103 ?_
              rw [hb2]
              refine a_iconst (-1) hX dX8_goThrough_104 (by decide) ?_
              refine a_icmp_eq 134 hX dX8_goThrough_105 (by decide) (fun c_105 => ?_) (fun c_105 => ?_)
              · refine a_iconst (0) hX dX8_goThrough_134 (by decide) ?_
                first
                | (have hz : (gtX (S.1 P) (hdN S P mst) k b e) d = true := by grind
                   rw [hz] at J135
                   exact J135)
                | (have hz : (gtX (S.1 P) (hdN S P mst) k b e) d = false := by grind
                   rw [hz] at J135
                   exact J135)
              · refine a_aload_n hX dX8_goThrough_108 rfl ?_
                refine gf_X8_63 rfl hX dX8_goThrough_109 ?_
                refine a_iload_n hX dX8_goThrough_112 rfl ?_
                refine a_iald (k) hX rfl rfl (show _ < 12 by omega) dX8_goThrough_113 ?_
                refine a_iload hX dX8_goThrough_114 rfl ?_
                rw [hb2]
                refine a_icmp_gt 134 hX dX8_goThrough_116 (by decide) (fun c_116 => ?_) (fun c_116 => ?_)
                · refine a_iconst (0) hX dX8_goThrough_134 (by decide) ?_
                  first
                  | (have hz : (gtX (S.1 P) (hdN S P mst) k b e) d = true := by grind
                     rw [hz] at J135
                     exact J135)
                  | (have hz : (gtX (S.1 P) (hdN S P mst) k b e) d = false := by grind
                     rw [hz] at J135
                     exact J135)
                · refine a_aload_n hX dX8_goThrough_119 rfl ?_
                  refine a_iload_n hX dX8_goThrough_120 rfl ?_
                  refine a_iload hX dX8_goThrough_121 rfl ?_
                  refine a_iload_n hX dX8_goThrough_123 rfl ?_
                  refine a_callV [_, _, _] hX c_X8_isHeld mi_X8_isHeld mv_X8_isHeld se_X8_isHeld (klt rfl (by decide)) (adr_lt (kd_lt rfl (by decide))) (cell_8 rfl) rfl li_X8_136 (by decide) rfl rfl (Nat.le_of_ble_eq_true rfl) (fun q => q) dX8_goThrough_124 ⟨_, _, _, _, rfl, hM2, hg, hP, hd36, ?_⟩
                  refine a_if_eq_b 134 hX dX8_goThrough_127 (by decide) (fun c_127 => ?_) (fun c_127 => ?_)
                  · refine a_iconst (0) hX dX8_goThrough_134 (by decide) ?_
                    first
                    | (have hz : (gtX (S.1 P) (hdN S P mst) k b e) d = true := by grind
                       rw [hz] at J135
                       exact J135)
                    | (have hz : (gtX (S.1 P) (hdN S P mst) k b e) d = false := by grind
                       rw [hz] at J135
                       exact J135)
                  · refine a_iconst (1) hX dX8_goThrough_130 (by decide) ?_
                    refine a_goto 135 hX dX8_goThrough_131 (by decide) ?_
                    first
                    | (have hz : (gtX (S.1 P) (hdN S P mst) k b e) d = true := by grind
                       rw [hz] at J135
                       exact J135)
                    | (have hz : (gtX (S.1 P) (hdN S P mst) k b e) d = false := by grind
                       rw [hz] at J135
                       exact J135)
  have hI0 : GI w (wset (wset w 238 k (nvI b)) 239 k (-1)) (S.1 P) (hdN S P mst) k b 0 100000 := by
    refine ⟨Fr.set (Fr.set Fr.rf (by omega)) (by omega), ?_, ?_, Or.inl ⟨rfl, fun x hx => by omega⟩, fun x hx => by omega, fun j hj => ?_⟩
    · rw [wset_ne _ _ _ _ (by decide), wset_row]
    · rw [wset_row, wset_ne _ _ _ _ (by decide)]
      rfl
    · rw [wset_ne _ _ _ _ (by decide), wset_ne _ _ _ _ (by decide), wset_ne _ _ _ _ (by decide), wset_ne _ _ _ _ (by decide), wset_ne _ _ _ _ (by decide), wset_ne _ _ _ _ (by decide)]
      exact ⟨rfl, rfl, rfl⟩
  exact L54 3601 0 100000 _ none none none (by omega) (by omega) hI0
