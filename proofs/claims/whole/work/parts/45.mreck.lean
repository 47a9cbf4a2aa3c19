/-! the reference's reckoning -/
theorem isEnd_ex (C : Nat → Prop) : ∃ e, isEnd C e := by
  by_cases h : ∃ d, d < 3600 ∧ C d
  · obtain ⟨d, hd, hc⟩ := h
    obtain ⟨e, he, hl⟩ := pk_least C ⟨d, hc⟩
    exact ⟨e, Or.inl ⟨Nat.lt_of_le_of_lt (Nat.not_lt.mp (fun q => hl d q hc)) hd, he, hl⟩⟩
  · exact ⟨100000, Or.inr ⟨rfl, fun d hd hc => h ⟨d, hd, hc⟩⟩⟩
/-- the reference's cells of one order -/
def MC (w : St) (PP : Nat → Nat → Int32) (hd : Nat → Bool) (be en : Nat → Nat) (k : Nat) : Prop := (w.1 238 k = nvI (be k) ∧ bdN (be k)) ∧ (w.1 239 k = nvI (en k) ∧ bdN (en k)) ∧ ∀ x, x < 3600 → w.1 240 (3600 * k + x) = (if ctB PP hd be en k x then 1 else 0) ∧ w.1 241 (3600 * k + x) = nI (fb_ct (ctB PP hd be en k) (x + 1)) ∧ w.1 242 (3600 * k + x) = nI (tkN (ix (PP k 6)) (mtN PP k) (tlN PP k (ctB PP hd be en k) (x + 1)).2.1 (tlN PP k (ctB PP hd be en k) (x + 1)).2.2)
def MK (w : St) (S : RS) (P : Nat) (mst : Int32) (be en : Nat → Nat) : Prop := MP w S P ∧ Sol (S.1 P) (hdN S P mst) be en ∧ ∀ k, k < 12 → stB (S.1 P) k = true → MC w (S.1 P) (hdN S P mst) be en k
/-- inside reckon: the orders dn are done -/
def RJ (w w2 : St) (S : RS) (P : Nat) (mst : Int32) (dn : Nat → Bool) (be en : Nat → Nat) : Prop :=
  FrS w w2 ∧ MP w2 S P ∧ (∀ o, o < 12 → w2.1 237 o = if dn o then 1 else 0) ∧ ∀ k, k < 12 → dn k = true → stB (S.1 P) k = true ∧ Eq1 (S.1 P) (hdN S P mst) be en k ∧ (∀ i, i < 12 → depB (S.1 P) k i = true → dn i = true) ∧ MC w2 (S.1 P) (hdN S P mst) be en k
theorem RJ_step {w w2 w3 : St} {S : RS} {P k e : Nat} {mst : Int32} {dn : Nat → Bool} {be en : Nat → Nat} (h : RJ w w2 S P mst dn be en) (hk : k < 12) (hst : stB (S.1 P) k = true) (hnd : dn k = false) (hrd : ∀ i, i < 12 → depB (S.1 P) k i = true → dn i = true) (hg : GI w2 w3 (S.1 P) (hdN S P mst) k (bgN (S.1 P) be en k) 3600 e) :
    RJ w (wset w3 237 k 1) S P mst (up1b dn k) (up1 be k (bgN (S.1 P) be en k)) (up1 en k e) := by
  obtain ⟨a, b, c, d⟩ := h
  obtain ⟨g1, g2, g3, g4, g5, g6⟩ := hg
  have he : isEnd (endC (S.1 P) (hdN S P mst) k (bgN (S.1 P) be en k)) e := by
    rcases g4 with ⟨x, y⟩ | ⟨x, y, z, u⟩
    · exact Or.inr ⟨x, y⟩
    · exact Or.inl ⟨y, z, u⟩
  have hub : ∀ i, i ≠ k → up1 be k (bgN (S.1 P) be en k) i = be i := fun i hi => if_neg hi
  have hue : ∀ i, i ≠ k → up1 en k e i = en i := fun i hi => if_neg hi
  have hbk : up1 be k (bgN (S.1 P) be en k) k = bgN (S.1 P) be en k := if_pos rfl
  have hek : up1 en k e k = e := if_pos rfl
  have hne : ∀ i, dn i = true → i ≠ k := fun i hi e9 => by
    rw [e9, hnd] at hi
    cases hi
  have hfs : FrS w2 (wset w3 237 k 1) := (FrS.fr g1 (fun z hz => by omega)).set (by decide) (by decide)
  refine ⟨a.tr hfs, b.fr (fun z h1 h2 => by rw [wset_ne _ _ _ _ (by omega), g1.2 z (by omega)]) (by rw [wset_ne _ _ _ _ (by decide), g1.2 221 (by omega)]), fun o ho => ?_, fun j hj hdj => ?_⟩
  · rw [wset_1]
    by_cases e9 : o = k
    · subst e9
      simp [up1b]
    · rw [if_neg (fun z => e9 z.2), g1.2 237 (by omega), c o ho]
      simp [up1b, e9]
  · by_cases e9 : j = k
    · subst e9
      refine ⟨hst, ⟨?_, by rw [hbk, hek]; exact he⟩, fun i hi hdi => ?_, ?_⟩
      · rw [hbk]
        exact bgN_cong (fun i hi hdi => by
          have h9 := hne i (hrd i hi hdi)
          rw [hub i h9, hue i h9]
          exact ⟨rfl, rfl⟩)
      · have h9 := hrd i hi hdi
        unfold up1b
        split
        · rfl
        · exact h9
      · have hctb : ∀ x, ctB (S.1 P) (hdN S P mst) (up1 be j (bgN (S.1 P) be en j)) (up1 en j e) j x = gtX (S.1 P) (hdN S P mst) j (bgN (S.1 P) be en j) e x := fun x => by
          unfold ctB gtX
          rw [hbk, hek]
        have hctf : ctB (S.1 P) (hdN S P mst) (up1 be j (bgN (S.1 P) be en j)) (up1 en j e) j = gtX (S.1 P) (hdN S P mst) j (bgN (S.1 P) be en j) e := funext hctb
        unfold MC
        rw [hbk, hek, hctf, wset_ne _ _ _ _ (by decide), wset_ne _ _ _ _ (by decide), wset_ne _ _ _ _ (by decide), wset_ne _ _ _ _ (by decide), wset_ne _ _ _ _ (by decide), g2, g3]
        refine ⟨⟨by simp [upd], bdN_cut _⟩, ⟨by simp [upd], bdN_end he⟩, g5⟩
    · have hdj' : dn j = true := by
        unfold up1b at hdj
        rw [if_neg e9] at hdj
        exact hdj
      obtain ⟨p1, p2, p3, p4⟩ := d j hj hdj'
      have hcf : ctB (S.1 P) (hdN S P mst) (up1 be k (bgN (S.1 P) be en k)) (up1 en k e) j = ctB (S.1 P) (hdN S P mst) be en j := by
        funext x
        unfold ctB
        rw [hub j e9, hue j e9]
      refine ⟨p1, ⟨?_, by rw [hub j e9, hue j e9]; exact p2.2⟩, fun i hi hdi => ?_, ?_⟩
      · rw [hub j e9, p2.1]
        exact bgN_cong (fun i hi hdi => by
          have h9 := hne i (p3 i hi hdi)
          rw [hub i h9, hue i h9]
          exact ⟨rfl, rfl⟩)
      · have h9 := p3 i hi hdi
        unfold up1b
        split
        · rfl
        · exact h9
      · obtain ⟨q1, q2, q3⟩ := p4
        unfold MC
        rw [hub j e9, hue j e9, hcf, wset_ne _ _ _ _ (by decide), wset_ne _ _ _ _ (by decide), wset_ne _ _ _ _ (by decide), wset_ne _ _ _ _ (by decide), wset_ne _ _ _ _ (by decide), g2, g3]
        refine ⟨⟨by simp [upd, e9]; exact q1.1, q1.2⟩, ⟨by simp [upd, e9]; exact q2.1, q2.2⟩, fun x hx => ?_⟩
        obtain ⟨o1, o2, o3⟩ := g6 (3600 * j + x) (by omega)
        rw [o1, o2, o3]
        exact q3 x hx
theorem MK.fu {w : St} {S : RS} {P : Nat} {mst : Int32} {be en : Nat → Nat} (h : MK w S P mst be en) (hg : gdS S) (hP : P < 6) : maxF (stB (S.1 P)) (fun i => en i + 1) 0 12 = fuN S P mst := maxF_cong (fun i hi hp => by rw [(sol_tie hg hP h.2.1 hi hp).2.1])
theorem MK.dc {S : RS} {P : Nat} {mst : Int32} (t i : Nat) : isEnd (fun d => wnN (S.1 P) t i ≤ fb_ct (ctN S P mst i) (d + 1)) (dcN S P mst t i) := Classical.epsilon_spec (isEnd_ex _)
theorem dc_le {S : RS} {P : Nat} {mst : Int32} {t i d : Nat} (hd : d < 3600) : dcN S P mst t i ≤ d ↔ wnN (S.1 P) t i ≤ fb_ct (ctN S P mst i) (d + 1) := by
  rcases MK.dc (S := S) (P := P) (mst := mst) t i with ⟨a, b, c⟩ | ⟨a, b⟩
  · constructor
    · intro h
      exact Nat.le_trans b (fb_ct_mono _ (by omega))
    · intro h
      exact Nat.not_lt.mp (fun q => c d q h)
  · constructor
    · intro h; omega
    · intro h
      exact absurd h (b d hd)
theorem maxF_lei {p : Nat → Bool} {f : Nat → Nat} {d : Nat} : ∀ {n : Nat}, maxF p f 0 n ≤ d ↔ ∀ i, i < n → p i = true → f i ≤ d
  | 0 => ⟨fun _ i hi => by omega, fun _ => Nat.zero_le _⟩
  | n + 1 => by
    rw [maxF_s]
    have ih := maxF_lei (p := p) (f := f) (d := d) (n := n)
    split
    · next hp =>
      constructor
      · intro h i hi hpi
        by_cases e : i = n
        · subst e; omega
        · exact ih.mp (by omega) i (by omega) hpi
      · intro h
        have h1 := ih.mpr (fun i hi hpi => h i (by omega) hpi)
        have h2 := h n (by omega) hp
        omega
    · next hp =>
      constructor
      · intro h i hi hpi
        by_cases e : i = n
        · subst e; exact absurd hpi hp
        · exact ih.mp h i (by omega) hpi
      · intro h
        exact ih.mpr (fun i hi hpi => h i (by omega) hpi)
theorem stB_cell {w : St} {PP : Nat → Nat → Int32} (h : MPl w PP) {k : Nat} (hk : k < 12) : ((2 ≤ w.1 224 k ∧ w.1 224 k ≤ 5) ∧ w.1 232 k = -1) ↔ stB PP k = true := by
  unfold stB
  rw [decide_eq_true_eq, (h k hk).1, (h k hk).2.2.2.2.2.1]
abbrev T_X8_reckon : Tr := fun lay av w Po => ∃ (g : Sg) (P d : Nat) (mst : Int32), av = [.ref (lay 221), .int (nI P), .int (nI d), .int mst] ∧ (MD g w) ∧ (okS g) ∧ (P < 6) ∧ (d < 3600) ∧ ∀ (w' : St) (be en : Nat → Nat), FrS w w' → MK w' (rpl (gL g) (kn (gL g) d (gn g))) P mst be en → Po none w'
set_option maxRecDepth 100000 in
set_option maxHeartbeats 4000000 in
theorem c_X8_reckon : Ct yX8_reckon cX8_reckon 6 none 4 0 0 T_X8_reckon := by
  refine Ct.mk (by decide +kernel) ?_
  intro X av w Po hX hR hT
  obtain ⟨g, P, d, mst, rfl, hD, ho, hP, hd, h⟩ := hT
  refine ⟨rfl, ?_⟩
  show A X 0 0 0 [some (.ref (xlay X 221)), some (.int (nI P)), some (.int (nI d)), some (.int mst), none, none] [] w
  have hg : gdS (rpl (gL g) (kn (gL g) d (gn g))) := ho.2.2.2.2.2 _ (kn_le _ _ _)
  have hv := (hg.1 P hP).1
  have hac := (hg.1 P hP).2.1
  refine a_aload_n hX dX8_reckon_0 rfl ?_
  refine a_iload_n hX dX8_reckon_1 rfl ?_
  refine a_iload_n hX dX8_reckon_2 rfl ?_
  refine a_callV [_, _] hX c_X8_tellAgain mi_X8_tellAgain mv_X8_tellAgain se_X8_tellAgain (klt rfl (by decide)) (adr_lt (kd_lt rfl (by decide))) (cell_8 rfl) rfl li_X8_140 (by decide) rfl rfl (Nat.le_of_ble_eq_true rfl) (fun q => q) dX8_reckon_3 ⟨_, _, _, rfl, hD, ho, hP, hd, ?_⟩
  intro w3 h3 hm3
  refine a_iconst (0) hX dX8_reckon_6 (by decide) ?_
  refine a_istore (ls' := [_, _, _, _, _, _]) hX dX8_reckon_7 (Nat.le_of_ble_eq_true rfl) rfl ?_
  have L9 : ∀ (fu1 : Nat) (i : Nat) (w2 : St), 12 - i < fu1 → (i ≤ 12) → (FrS w w2) → (MP w2 (rpl (gL g) (kn (gL g) d (gn g))) P) → (∀ o, o < i → w2.1 237 o = 0) → A X 0 0 9 [some (.ref (xlay X 221)), some (.int (nI P)), some (.int (nI d)), some (.int mst), some (.int (nI i)), none] [] w2 := by
    intro fu1
    induction fu1 with
    | zero => intro i w2 hmu; exact absurd hmu (Nat.not_lt_zero _)
    | succ fu1 ih1 =>
      intro i w2 hmu1 hi hf2 hm2 hz
      refine a_iload hX dX8_reckon_9 rfl ?_
      refine a_bipush (12) hX dX8_reckon_11 (by decide) ?_
      refine a_icmp_ge 30 hX dX8_reckon_13 (by decide) (fun c_13 => ?_) (fun c_13 => ?_)
      · refine a_iconst (1) hX dX8_reckon_30 (by decide) ?_
        refine a_istore (ls' := [_, _, _, _, _, _]) hX dX8_reckon_31 (Nat.le_of_ble_eq_true rfl) rfl ?_
        have L33 : ∀ (fu2 : Nat) (m : Int32) (w2 : St) (dn : Nat → Bool) (be en : Nat → Nat) (y5 : Option Value), 2 * fb_ct (fun x => stB ((rpl (gL g) (kn (gL g) d (gn g))).1 P) x && !dn x) 12 + (if m = 0 then 0 else 1) < fu2 → (RJ w w2 (rpl (gL g) (kn (gL g) d (gn g))) P mst dn be en) → (m = 1 ∨ (m = 0 ∧ ∀ k, k < 12 → stB ((rpl (gL g) (kn (gL g) d (gn g))).1 P) k = true → dn k = false → ∃ i, i < 12 ∧ depB ((rpl (gL g) (kn (gL g) d (gn g))).1 P) k i = true ∧ dn i = false)) → A X 0 0 33 [some (.ref (xlay X 221)), some (.int (nI P)), some (.int (nI d)), some (.int mst), some (.int m), y5] [] w2 := by
          intro fu2
          induction fu2 with
          | zero => intro m w2 dn be en y5 hmu; exact absurd hmu (Nat.not_lt_zero _)
          | succ fu2 ih2 =>
            intro m w2 dn be en y5 hmu2 hJ hmo
            refine a_iload hX dX8_reckon_33 rfl ?_
            refine a_if_eq 110 hX dX8_reckon_35 (by decide) (fun c_35 => ?_) (fun c_35 => ?_)
            · refine a_vret hX hR dX8_reckon_110 ⟨Nat.le_refl _, Nat.le_refl _⟩ ?_
              have hall : ∀ k, k < 12 → stB ((rpl (gL g) (kn (gL g) d (gn g))).1 P) k = true → dn k = true := by
                rcases hmo with q | ⟨q, hno⟩
                · subst q
                  exact absurd c_35 (by decide)
                · intro k hk hs
                  cases hz : dn k
                  · exfalso
                    obtain ⟨x, hx, hsx, hxn⟩ := hac (fun x => stB ((rpl (gL g) (kn (gL g) d (gn g))).1 P) x && !dn x) ⟨k, hk, by rw [hs, hz]; rfl⟩ (fun y hy hsy => stB_runs (by rw [Bool.and_eq_true] at hsy; exact hsy.1))
                    rw [Bool.and_eq_true] at hsx
                    obtain ⟨i, hi, hdi, hni⟩ := hno x hx hsx.1 (by simpa using hsx.2)
                    unfold depB at hdi
                    rw [Bool.and_eq_true] at hdi
                    have h9 := hxn i hi (by rw [hdi.2, hni]; rfl)
                    rw [hdi.1] at h9
                    cases h9
                  · rfl
              exact h w2 be en hJ.1 ⟨hJ.2.1, fun k hk hs => (hJ.2.2.2 k hk (hall k hk hs)).2.1, fun k hk hs => (hJ.2.2.2 k hk (hall k hk hs)).2.2.2⟩
            · refine a_iconst (0) hX dX8_reckon_38 (by decide) ?_
              refine a_istore (ls' := [_, _, _, _, _, _]) hX dX8_reckon_39 (Nat.le_of_ble_eq_true rfl) rfl ?_
              refine a_iconst (0) hX dX8_reckon_41 (by decide) ?_
              refine a_istore (ls' := [_, _, _, _, _, _]) hX dX8_reckon_42 (Nat.le_of_ble_eq_true rfl) rfl ?_
              have L44 : ∀ (fu3 : Nat) (i : Nat) (m3 : Int32) (w3 : St) (dn3 : Nat → Bool) (be3 en3 : Nat → Nat), 12 - i < fu3 → (i ≤ 12) → (RJ w w3 (rpl (gL g) (kn (gL g) d (gn g))) P mst dn3 be3 en3) → ((m3 = 0 ∧ dn3 = dn ∧ ∀ k, k < i → stB ((rpl (gL g) (kn (gL g) d (gn g))).1 P) k = true → dn k = false → ∃ i, i < 12 ∧ depB ((rpl (gL g) (kn (gL g) d (gn g))).1 P) k i = true ∧ dn i = false) ∨ (m3 = 1 ∧ fb_ct (fun x => stB ((rpl (gL g) (kn (gL g) d (gn g))).1 P) x && !dn3 x) 12 < fb_ct (fun x => stB ((rpl (gL g) (kn (gL g) d (gn g))).1 P) x && !dn x) 12)) → A X 0 0 44 [some (.ref (xlay X 221)), some (.int (nI P)), some (.int (nI d)), some (.int mst), some (.int m3), some (.int (nI i))] [] w3 := by
                intro fu3
                induction fu3 with
                | zero => intro i m3 w3 dn3 be3 en3 hmu; exact absurd hmu (Nat.not_lt_zero _)
                | succ fu3 ih3 =>
                  intro i m3 w3 dn3 be3 en3 hmu3 hi hJ3 hm3
                  refine a_iload hX dX8_reckon_44 rfl ?_
                  refine a_bipush (12) hX dX8_reckon_46 (by decide) ?_
                  refine a_icmp_ge 107 hX dX8_reckon_48 (by decide) (fun c_48 => ?_) (fun c_48 => ?_)
                  · have hi12 : i = 12 := by
                      have := le_of_c (b := 12) c_48 (by omega) (by omega)
                      omega
                    subst hi12
                    have hm1 : m = 1 := by
                      rcases hmo with q | q
                      · exact q
                      · exact absurd q.1 c_35
                    subst hm1
                    rw [if_neg (by decide)] at hmu2
                    refine a_goto 33 hX dX8_reckon_107 (by decide) ?_
                    rcases hm3 with ⟨a, b, c⟩ | ⟨a, b⟩
                    · subst a
                      subst b
                      exact ih2 0 w3 dn3 be3 en3 _ (by rw [if_pos rfl]; omega) hJ3 (Or.inr ⟨rfl, c⟩)
                    · subst a
                      exact ih2 1 w3 dn3 be3 en3 _ (by rw [if_neg (by decide)]; omega) hJ3 (Or.inl rfl)
                  · have hi12 : i < 12 := lt_of_c (b := 12) c_48 (by omega) (by omega)
                    have hsc := stB_cell hJ3.2.1.1 hi12
                    have hdo := hJ3.2.2.1 i hi12
                    refine a_aload_n hX dX8_reckon_51 rfl ?_
                    refine a_iload hX dX8_reckon_52 rfl ?_
                    refine a_callV [_] hX c_X8_isLive mi_X8_isLive mv_X8_isLive se_X8_isLive (klt rfl (by decide)) (adr_lt (kd_lt rfl (by decide))) (cell_8 rfl) rfl li_X8_121 (by decide) rfl rfl (Nat.le_of_ble_eq_true rfl) (fun q => q) dX8_reckon_54 ⟨_, rfl, (by assumption), ?_⟩
                    refine a_if_eq_b 101 hX dX8_reckon_57 (by decide) (fun c_57 => ?_) (fun c_57 => ?_)
                    · refine a_iinc (ls' := [_, _, _, _, _, _]) (nI (i + 1)) hX dX8_reckon_101 rfl (nI_i1 i) rfl ?_
                      refine a_goto 44 hX dX8_reckon_104 (by decide) ?_
                      refine ih3 (i + 1) m3 w3 dn3 be3 en3 (by omega) (by omega) hJ3 ?_
                      rcases hm3 with ⟨a, b, c⟩ | hm3
                      · refine Or.inl ⟨a, b, fun k hk hs hdk => ?_⟩
                        by_cases e : k = i
                        · subst e
                          exact absurd (hsc.mpr hs) c_57
                        · exact c k (by omega) hs hdk
                      · exact Or.inr hm3
                    · refine a_aload_n hX dX8_reckon_60 rfl ?_
                      refine gf_X8_60 rfl hX dX8_reckon_61 ?_
                      refine a_iload hX dX8_reckon_64 rfl ?_
                      refine a_zald (i) hX rfl rfl (show _ < 12 by omega) dX8_reckon_66 ?_
                      refine a_if_ne 101 hX dX8_reckon_67 (by decide) (fun c_67 => ?_) (fun c_67 => ?_)
                      · refine a_iinc (ls' := [_, _, _, _, _, _]) (nI (i + 1)) hX dX8_reckon_101 rfl (nI_i1 i) rfl ?_
                        refine a_goto 44 hX dX8_reckon_104 (by decide) ?_
                        refine ih3 (i + 1) m3 w3 dn3 be3 en3 (by omega) (by omega) hJ3 ?_
                        rcases hm3 with ⟨a, b, c⟩ | hm3
                        · refine Or.inl ⟨a, b, fun k hk hs hdk => ?_⟩
                          by_cases e : k = i
                          · subst e
                            rw [hdo, b, hdk] at c_67
                            exact absurd rfl c_67
                          · exact c k (by omega) hs hdk
                        · exact Or.inr hm3
                      · refine a_aload_n hX dX8_reckon_70 rfl ?_
                        refine a_iload hX dX8_reckon_71 rfl ?_
                        refine a_callV [_] hX c_X8_isReady mi_X8_isReady mv_X8_isReady se_X8_isReady (klt rfl (by decide)) (adr_lt (kd_lt rfl (by decide))) (cell_8 rfl) rfl li_X8_143 (by decide) rfl rfl (Nat.le_of_ble_eq_true rfl) (fun q => q) dX8_reckon_73 ⟨((rpl (gL g) (kn (gL g) d (gn g))).1 P), _, dn3, rfl, hJ3.2.1.1, hv, hi12, hJ3.2.2.1, ?_⟩
                        refine a_if_ne_b 82 hX dX8_reckon_76 (by decide) (fun c_76 => ?_) (fun c_76 => ?_)
                        · have hsi := hsc.mp c_57
                          have hnd : dn3 i = false := by
                            cases hz : dn3 i
                            · rfl
                            · rw [hz] at hdo
                              rw [hdo] at c_67
                              exact absurd c_67 (by decide)
                          have hrd : ∀ x, x < 12 → depB ((rpl (gL g) (kn (gL g) d (gn g))).1 P) i x = true → dn3 x = true := fun x hx hdx => by
                            cases hz : dn3 x
                            · have hany : anyF (fun x => depB ((rpl (gL g) (kn (gL g) d (gn g))).1 P) i x && !dn3 x) 12 = true := anyF_iff.mpr ⟨x, hx, by rw [hdx, hz]; rfl⟩
                              rw [hany] at c_76
                              cases c_76
                            · rfl
                          refine a_aload_n hX dX8_reckon_82 rfl ?_
                          refine a_iload_n hX dX8_reckon_83 rfl ?_
                          refine a_iload hX dX8_reckon_84 rfl ?_
                          refine a_iload_n hX dX8_reckon_86 rfl ?_
                          refine a_callV [_, _, _] hX c_X8_goThrough mi_X8_goThrough mv_X8_goThrough se_X8_goThrough (klt rfl (by decide)) (adr_lt (kd_lt rfl (by decide))) (cell_8 rfl) rfl li_X8_146 (by decide) rfl rfl (Nat.le_of_ble_eq_true rfl) (fun q => q) dX8_reckon_87 ⟨_, _, _, _, be3, en3, rfl, hJ3.2.1, hg, hP, hi12, hsi, (fun x hx hdx => ⟨(hJ3.2.2.2 x hx (hrd x hx hdx)).2.2.2.1, (hJ3.2.2.2 x hx (hrd x hx hdx)).2.2.2.2.1⟩), ?_⟩
                          intro w87 e87 hg87
                          have hJ4 := RJ_step hJ3 hi12 hsi hnd hrd hg87
                          refine a_aload_n hX dX8_reckon_90 rfl ?_
                          refine gf_X8_60 rfl hX dX8_reckon_91 ?_
                          refine a_iload hX dX8_reckon_94 rfl ?_
                          refine a_iconst (1) hX dX8_reckon_96 (by decide) ?_
                          refine a_zast (i) hX rfl rfl (show _ < 12 by omega) rfl dX8_reckon_97 ?_
                          refine a_iconst (1) hX dX8_reckon_98 (by decide) ?_
                          refine a_istore (ls' := [_, _, _, _, _, _]) hX dX8_reckon_99 (Nat.le_of_ble_eq_true rfl) rfl ?_
                          refine a_iinc (ls' := [_, _, _, _, _, _]) (nI (i + 1)) hX dX8_reckon_101 rfl (nI_i1 i) rfl ?_
                          refine a_goto 44 hX dX8_reckon_104 (by decide) ?_
                          refine ih3 (i + 1) 1 _ _ _ _ (by omega) (by omega) hJ4 (Or.inr ⟨rfl, ?_⟩)
                          have h1 : fb_ct (fun x => stB ((rpl (gL g) (kn (gL g) d (gn g))).1 P) x && !(up1b dn3 i) x) 12 < fb_ct (fun x => stB ((rpl (gL g) (kn (gL g) d (gn g))).1 P) x && !dn3 x) 12 := by
                            have h2 := fb_ct_upd (fun x => stB ((rpl (gL g) (kn (gL g) d (gn g))).1 P) x && !dn3 x) false hi12
                            have h3 : (stB ((rpl (gL g) (kn (gL g) d (gn g))).1 P) i && !dn3 i) = true := by rw [hsi, hnd]; rfl
                            rw [h3] at h2
                            simp only [if_true, if_false, Bool.false_eq_true] at h2
                            have h4 : fb_ct (fun x => stB ((rpl (gL g) (kn (gL g) d (gn g))).1 P) x && !(up1b dn3 i) x) 12 ≤ fb_ct (fun x => if x = i then false else (stB ((rpl (gL g) (kn (gL g) d (gn g))).1 P) x && !dn3 x)) 12 := fb_ct_sub (fun x hx h5 => by
                              rw [Bool.and_eq_true] at h5
                              by_cases e : x = i
                              · subst e
                                have h6 := h5.2
                                unfold up1b at h6
                                simp at h6
                              · rw [if_neg e, Bool.and_eq_true]
                                refine ⟨h5.1, ?_⟩
                                have h6 := h5.2
                                unfold up1b at h6
                                rw [if_neg e] at h6
                                exact h6)
                            omega
                          rcases hm3 with ⟨a, b, c⟩ | ⟨a, b⟩
                          · rw [b] at h1
                            rw [b]
                            exact h1
                          · omega
                        · refine a_goto 101 hX dX8_reckon_79 (by decide) ?_
                          refine a_iinc (ls' := [_, _, _, _, _, _]) (nI (i + 1)) hX dX8_reckon_101 rfl (nI_i1 i) rfl ?_
                          refine a_goto 44 hX dX8_reckon_104 (by decide) ?_
                          refine ih3 (i + 1) m3 w3 dn3 be3 en3 (by omega) (by omega) hJ3 ?_
                          rcases hm3 with ⟨a, b, c⟩ | hm3
                          · refine Or.inl ⟨a, b, fun k hk hs hdk => ?_⟩
                            by_cases e : k = i
                            · subst e
                              have hany : anyF (fun x => depB ((rpl (gL g) (kn (gL g) d (gn g))).1 P) k x && !dn3 x) 12 = true := by
                                cases hz : anyF (fun x => depB ((rpl (gL g) (kn (gL g) d (gn g))).1 P) k x && !dn3 x) 12
                                · exact absurd hz c_76
                                · rfl
                              obtain ⟨x, hx, hp⟩ := anyF_iff.mp hany
                              have hp : (depB ((rpl (gL g) (kn (gL g) d (gn g))).1 P) k x && !dn3 x) = true := hp
                              rw [Bool.and_eq_true, b] at hp
                              exact ⟨x, hx, hp.1, by simpa using hp.2⟩
                            · exact c k (by omega) hs hdk
                          · exact Or.inr hm3
              exact L44 13 0 0 w2 dn be en (by omega) (by omega) hJ (Or.inl ⟨rfl, rfl, fun k hk => by omega⟩)
        have hi12 : i = 12 := by
          have := le_of_c (b := 12) c_13 (by omega) (by omega)
          omega
        subst hi12
        exact L33 30 1 w2 (fun _ => false) (fun _ => 0) (fun _ => 0) _ (Nat.lt_of_le_of_lt (Nat.add_le_add_right (Nat.mul_le_mul_left 2 (fb_ct_le _ 12)) _) (by rw [if_neg (by decide)]; decide)) ⟨hf2, hm2, fun o ho => by rw [hz o ho]; rfl, fun k hk hd => by cases hd⟩ (Or.inl rfl)
      · have hi12 : i < 12 := lt_of_c (b := 12) c_13 (by omega) (by omega)
        refine a_aload_n hX dX8_reckon_16 rfl ?_
        refine gf_X8_60 rfl hX dX8_reckon_17 ?_
        refine a_iload hX dX8_reckon_20 rfl ?_
        refine a_iconst (0) hX dX8_reckon_22 (by decide) ?_
        refine a_zast (i) hX rfl rfl (show _ < 12 by omega) rfl dX8_reckon_23 ?_
        refine a_iinc (ls' := [_, _, _, _, _, _]) (nI (i + 1)) hX dX8_reckon_24 rfl (nI_i1 i) rfl ?_
        refine a_goto 9 hX dX8_reckon_27 (by decide) ?_
        refine ih1 (i + 1) _ (by omega) (by omega) (hf2.set (by decide) (by decide)) (hm2.fr (fun z h1 h2 => wset_ne _ _ _ _ (by omega)) (by rw [wset_ne _ _ _ _ (by decide)])) (fun o ho => ?_)
        rw [wset_1]
        by_cases e : o = i
        · rw [if_pos ⟨rfl, e⟩]
        · rw [if_neg (fun z => e z.2)]
          exact hz o (by omega)
  exact L9 13 0 w3 (by omega) (by omega) h3 hm3 (fun o ho => by omega)
abbrev T_X8_fullNow : Tr := fun lay av w Po => ∃ (S : RS) (P : Nat) (mst : Int32) (be en : Nat → Nat), av = [.ref (lay 221)] ∧ (MK w S P mst be en) ∧ (gdS S) ∧ (P < 6) ∧ Po (some (.int (nvI (fuD S P mst)))) w
set_option maxRecDepth 100000 in
set_option maxHeartbeats 4000000 in
theorem c_X8_fullNow : Ct yX8_fullNow cX8_fullNow 3 (some .int) 2 0 0 T_X8_fullNow := by
  refine Ct.mk (by decide +kernel) ?_
  intro X av w Po hX hR hT
  obtain ⟨S, P, mst, be, en, rfl, hK, hg, hP, h⟩ := hT
  refine ⟨rfl, ?_⟩
  show A X 0 0 0 [some (.ref (xlay X 221)), none, none] [] w
  refine a_iconst (0) hX dX8_fullNow_0 (by decide) ?_
  refine a_istore_n (ls' := [_, _, _]) hX dX8_fullNow_1 (Nat.le_of_ble_eq_true rfl) rfl ?_
  refine a_iconst (0) hX dX8_fullNow_2 (by decide) ?_
  refine a_istore_n (ls' := [_, _, _]) hX dX8_fullNow_3 (Nat.le_of_ble_eq_true rfl) rfl ?_
  have L4 : ∀ (fu : Nat) (i : Nat) (y : Int32), 12 - i < fu → (i ≤ 12) → (y = nI (maxF (stB (S.1 P)) (fun i => en i + 1) 0 i)) → (∀ j, j < i → stB (S.1 P) j = true → en j < 3600) → A X 0 0 4 [some (.ref (xlay X 221)), some (.int y), some (.int (nI i))] [] w := by
    intro fu
    induction fu with
    | zero => intro i y hmu; exact absurd hmu (Nat.not_lt_zero _)
    | succ fu ih =>
      intro i y hmu hi hy hen
      refine a_iload_n hX dX8_fullNow_4 rfl ?_
      refine a_bipush (12) hX dX8_fullNow_5 (by decide) ?_
      refine a_icmp_ge 64 hX dX8_fullNow_7 (by decide) (fun c_7 => ?_) (fun c_7 => ?_)
      · refine a_iload_n hX dX8_fullNow_64 rfl ?_
        refine a_iret hX hR dX8_fullNow_65 ⟨Nat.le_refl _, Nat.le_refl _⟩ rfl ?_
        have hi12 : i = 12 := by
          have := le_of_c (b := 12) c_7 (by omega) (by omega)
          omega
        subst hi12
        have hmb : maxF (stB (S.1 P)) (fun i => en i + 1) 0 12 ≤ 3600 := maxF_le (by omega) (fun j hj hp => by have := hen j hj hp; omega)
        exact po_int h (by
          unfold fuD
          rw [← hK.fu hg hP, if_pos hmb, nvI_lt (by omega), hy])
      · have hi12 : i < 12 := lt_of_c (b := 12) c_7 (by omega) (by omega)
        have hsc := stB_cell hK.1.1 hi12
        refine a_aload_n hX dX8_fullNow_10 rfl ?_
        refine a_iload_n hX dX8_fullNow_11 rfl ?_
        refine a_callV [_] hX c_X8_isLive mi_X8_isLive mv_X8_isLive se_X8_isLive (klt rfl (by decide)) (adr_lt (kd_lt rfl (by decide))) (cell_8 rfl) rfl li_X8_121 (by decide) rfl rfl (Nat.le_of_ble_eq_true rfl) (fun q => q) dX8_fullNow_12 ⟨_, rfl, (by assumption), ?_⟩
        refine a_if_ne_b 21 hX dX8_fullNow_15 (by decide) (fun c_15 => ?_) (fun c_15 => ?_)
        · have hsi := hsc.mp c_15
          obtain ⟨-, ⟨ce, cb⟩, -⟩ := hK.2.2 i hi12 hsi
          have hmb : maxF (stB (S.1 P)) (fun i => en i + 1) 0 i ≤ 3600 := maxF_le (by omega) (fun j hj hp => by have := hen j hj hp; omega)
          refine a_aload_n hX dX8_fullNow_21 rfl ?_
          refine gf_X8_66 rfl hX dX8_fullNow_22 ?_
          refine a_iload_n hX dX8_fullNow_25 rfl ?_
          refine a_iald (i) hX rfl rfl (show _ < 12 by omega) dX8_fullNow_26 ?_
          rw [ce]
          refine a_iconst (-1) hX dX8_fullNow_27 (by decide) ?_
          refine a_icmp_ne 33 hX dX8_fullNow_28 (by decide) (fun c_28 => ?_) (fun c_28 => ?_)
          · have h1 : en i ≠ 100000 := fun z => c_28 ((nvI_m1 cb).mpr z)
            have h1l : en i < 3600 := by unfold bdN at cb; omega
            refine a_aload_n hX dX8_fullNow_33 rfl ?_
            refine gf_X8_66 rfl hX dX8_fullNow_34 ?_
            refine a_iload_n hX dX8_fullNow_37 rfl ?_
            refine a_iald (i) hX rfl rfl (show _ < 12 by omega) dX8_fullNow_38 ?_
            rw [ce, nvI_lt h1]
            refine a_iconst (1) hX dX8_fullNow_39 (by decide) ?_
            refine a_iadd hX dX8_fullNow_40 ?_
            rw [nI_1, hy]
            refine a_iload_n hX dX8_fullNow_41 rfl ?_
            refine a_icmp_le 56 hX dX8_fullNow_42 (by decide) (fun c_42 => ?_) (fun c_42 => ?_)
            · refine a_iload_n hX dX8_fullNow_56 rfl ?_
              refine a_istore_n (ls' := [_, _, _]) hX dX8_fullNow_57 (Nat.le_of_ble_eq_true rfl) rfl ?_
              refine a_iinc (ls' := [_, _, _]) (nI (i + 1)) hX dX8_fullNow_58 rfl (nI_i1 i) rfl ?_
              refine a_goto 4 hX dX8_fullNow_61 (by decide) ?_
              have h3 := (nI_leI (by omega) (by omega)).mp c_42
              exact ih (i + 1) _ (by omega) (by omega) (by rw [maxF_s, if_pos hsi, Nat.max_eq_left h3]) (fun j hj hs => by
                by_cases e : j = i
                · subst e; exact h1l
                · exact hen j (by omega) hs)
            · refine a_aload_n hX dX8_fullNow_45 rfl ?_
              refine gf_X8_66 rfl hX dX8_fullNow_46 ?_
              refine a_iload_n hX dX8_fullNow_49 rfl ?_
              refine a_iald (i) hX rfl rfl (show _ < 12 by omega) dX8_fullNow_50 ?_
              rw [ce, nvI_lt h1]
              refine a_iconst (1) hX dX8_fullNow_51 (by decide) ?_
              refine a_iadd hX dX8_fullNow_52 ?_
              rw [nI_1]
              refine a_goto 57 hX dX8_fullNow_53 (by decide) ?_
              refine a_istore_n (ls' := [_, _, _]) hX dX8_fullNow_57 (Nat.le_of_ble_eq_true rfl) rfl ?_
              refine a_iinc (ls' := [_, _, _]) (nI (i + 1)) hX dX8_fullNow_58 rfl (nI_i1 i) rfl ?_
              refine a_goto 4 hX dX8_fullNow_61 (by decide) ?_
              have h3 := (nI_ltI (by omega) (by omega)).mp (lt_nle c_42)
              exact ih (i + 1) _ (by omega) (by omega) (by rw [maxF_s, if_pos hsi, Nat.max_eq_right (by omega)]) (fun j hj hs => by
                by_cases e : j = i
                · subst e; exact h1l
                · exact hen j (by omega) hs)
          · refine a_iconst (-1) hX dX8_fullNow_31 (by decide) ?_
            refine a_iret hX hR dX8_fullNow_32 ⟨Nat.le_refl _, Nat.le_refl _⟩ rfl ?_
            have h1 : en i = 100000 := (nvI_m1 cb).mp c_28
            have h2 := maxF_ge (p := stB (S.1 P)) (f := fun i => en i + 1) (x := 0) hi12 hsi
            rw [hK.fu hg hP] at h2
            have h3 : en i + 1 ≤ fuN S P mst := h2
            exact po_int h (by
              unfold fuD
              rw [if_neg (by omega)]
              rfl)
        · refine a_goto 58 hX dX8_fullNow_18 (by decide) ?_
          refine a_iinc (ls' := [_, _, _]) (nI (i + 1)) hX dX8_fullNow_58 rfl (nI_i1 i) rfl ?_
          refine a_goto 4 hX dX8_fullNow_61 (by decide) ?_
          have hns : stB (S.1 P) i = false := by
            cases hz : stB (S.1 P) i
            · rfl
            · exact absurd (hsc.mpr hz) c_15
          exact ih (i + 1) _ (by omega) (by omega) (by rw [maxF_s, if_neg (by rw [hns]; simp)]; exact hy) (fun j hj hs => by
            by_cases e : j = i
            · subst e
              rw [hns] at hs
              cases hs
            · exact hen j (by omega) hs)
  exact L4 13 0 _ (by omega) (by omega) rfl (fun j hj => by omega)
