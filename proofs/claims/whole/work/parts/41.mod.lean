/-! the reference's state in plain words -/
def MD (g : Sg) (w : St) : Prop := (w.1 221 0 = nI (gt g) ∧ w.1 221 1 = ga g ∧ w.1 221 2 = nI (gp g) ∧ w.1 221 5 = nI (gn g)) ∧ (∀ i, i < gn g → ∀ j, j < 8 → w.1 222 (8 * i + j) = gL g i j) ∧ (∀ i, i < gn g → gL g i 1 = 12 → w.1 223 i = gL g i 8) ∧ w.1 221 32 = nI (gr g) ∧ ∀ j, j < gr g → w.1 247 j = nI (gq g j)
theorem n30 (a b : Nat) : (30 : Int32) * nI a + nI b = nI (30 * a + b) := by rw [← nI_add, ← pk_mul]; rfl
theorem n120 (a b : Nat) : (120 : Int32) * nI a + nI b = nI (120 * a + b) := by rw [← nI_add, ← pk_mul]; rfl
theorem n8 (a b : Nat) : (8 : Int32) * nI a + nI b = nI (8 * a + b) := by rw [← nI_add, ← pk_mul]; rfl
theorem n3600 (a b : Nat) : (3600 : Int32) * nI a + nI b = nI (3600 * a + b) := by rw [← nI_add, ← pk_mul]; rfl
/-- scratch cells alone are other -/
def FrS (w w' : St) : Prop := (w'.2 = w.2 ∧ ∀ r, r ≠ 221 → ¬ (224 ≤ r ∧ r < 247) → w'.1 r = w.1 r) ∧ ∀ k, k ≠ 15 → k ≠ 30 → w'.1 221 k = w.1 221 k
theorem FrS.rf {w : St} : FrS w w := ⟨⟨rfl, fun _ _ _ => rfl⟩, fun _ _ _ => rfl⟩
theorem FrS.tr {w w' w'' : St} (h : FrS w w') (h2 : FrS w' w'') : FrS w w'' := ⟨⟨h2.1.1.trans h.1.1, fun r a b => (h2.1.2 r a b).trans (h.1.2 r a b)⟩, fun k a b => (h2.2 k a b).trans (h.2 k a b)⟩
theorem FrS.fr {w w' : St} {T : Nat → Prop} (hf : Fr w w' T) (hT : ∀ z, T z → 224 ≤ z ∧ z < 247) : FrS w w' := ⟨⟨hf.1, fun r a b => hf.2 r (fun h => b (hT r h))⟩, fun k _ _ => by rw [hf.2 221 (fun h => by have := hT _ h; omega)]⟩
theorem FrS.set {w w' : St} {r j : Nat} {v : Int32} (h : FrS w w') (h1 : 224 ≤ r) (h2 : r < 247) : FrS w (wset w' r j v) := h.tr (FrS.fr (T := fun z => z = r) (Fr.set Fr.rf rfl) (fun z hz => by omega))
theorem FrS.f15 {w w' : St} {j : Nat} {v : Int32} (h : FrS w w') (hj : j = 15 ∨ j = 30) : FrS w (wset w' 221 j v) := by
  refine h.tr ⟨⟨rfl, fun r a b => wset_ne _ _ _ _ a⟩, fun k a b => ?_⟩
  rw [wset_1, if_neg (by omega)]
theorem MD.s {g : Sg} {w w' : St} (h : MD g w) (hf : FrS w w') : MD g w' := by
  obtain ⟨⟨a, b, c, d⟩, e, f, i, j⟩ := h
  have h222 := hf.1.2 222 (by decide) (by omega)
  have h223 := hf.1.2 223 (by decide) (by omega)
  have h247 := hf.1.2 247 (by decide) (by omega)
  refine ⟨⟨by rw [hf.2 0 (by decide) (by decide)]; exact a, by rw [hf.2 1 (by decide) (by decide)]; exact b, by rw [hf.2 2 (by decide) (by decide)]; exact c, by rw [hf.2 5 (by decide) (by decide)]; exact d⟩, by rw [h222]; exact e, by rw [h223]; exact f, by rw [hf.2 32 (by decide) (by decide)]; exact i, by rw [h247]; exact j⟩
/-- the class's cells are as they were -/
def FrC (w w' : St) : Prop := w'.2 = w.2 ∧ ∀ r, r < 221 ∨ 248 ≤ r → w'.1 r = w.1 r
theorem FrC.rf {w : St} : FrC w w := ⟨rfl, fun _ _ => rfl⟩
theorem FrC.tr {w w' w'' : St} (h : FrC w w') (h2 : FrC w' w'') : FrC w w'' := ⟨h2.1.trans h.1, fun r a => (h2.2 r a).trans (h.2 r a)⟩
theorem FrS.C {w w' : St} (h : FrS w w') : FrC w w' := ⟨h.1.1, fun r a => h.1.2 r (by omega) (by omega)⟩
theorem FrC.set {w w' : St} {r j : Nat} {v : Int32} (h : FrC w w') (h1 : 221 ≤ r) (h2 : r < 248) : FrC w (wset w' r j v) := h.tr ⟨rfl, fun q a => wset_ne _ _ _ _ (by omega)⟩
/-- the places of one person, as far as they count -/
def MPl (w : St) (PP : Nat → Nat → Int32) : Prop := ∀ i, i < 12 → w.1 224 i = PP i 0 ∧ w.1 228 i = PP i 4 ∧ w.1 229 i = PP i 6 ∧ w.1 230 i = PP i 7 ∧ w.1 231 i = PP i 8 ∧ w.1 232 i = PP i 5 ∧ ((2 ≤ PP i 0 ∧ PP i 0 ≤ 7) → w.1 225 i = PP i 1) ∧ ((PP i 0 = 6 ∨ PP i 0 = 7) → w.1 226 i = PP i 2) ∧ ((2 ≤ PP i 0 ∧ PP i 0 ≤ 5) → w.1 227 i = PP i 3)
def MMc (w : St) (S : RS) (Q M : Nat) : Prop := w.1 233 (120 * Q + M) = (if S.2.1 Q M 0 = 0 then 0 else if S.2.1 Q M 0 = 3 then 2 else 1) ∧ ((S.2.1 Q M 0 = 1 ∨ S.2.1 Q M 0 = 2) → w.1 234 (120 * Q + M) = (if S.2.1 Q M 0 = 2 then 1 else 0) ∧ w.1 235 (120 * Q + M) = S.2.1 Q M 1 ∧ ∀ k, k < 30 → (w.1 236 (30 * (120 * Q + M) + k) ≠ 0 ↔ S.2.2.1 Q M k = true))
def MP (w : St) (S : RS) (P : Nat) : Prop := MPl w (S.1 P) ∧ (∀ Q, Q < 6 → ∀ M, M < 120 → MMc w S Q M) ∧ w.1 221 15 = S.2.2.2 P
theorem MPl.fr {w w' : St} {PP : Nat → Nat → Int32} (h : MPl w PP) (hz : ∀ z, 224 ≤ z → z ≤ 232 → w'.1 z = w.1 z) : MPl w' PP := by
  intro i hi
  rw [hz 224 (by decide) (by decide), hz 225 (by decide) (by decide), hz 226 (by decide) (by decide), hz 227 (by decide) (by decide), hz 228 (by decide) (by decide), hz 229 (by decide) (by decide), hz 230 (by decide) (by decide), hz 231 (by decide) (by decide), hz 232 (by decide) (by decide)]
  exact h i hi
theorem MMc.fr {w w' : St} {S S' : RS} {Q M : Nat} (h : MMc w S Q M) (h3 : w'.1 233 (120 * Q + M) = w.1 233 (120 * Q + M)) (h4 : w'.1 234 (120 * Q + M) = w.1 234 (120 * Q + M)) (h5 : w'.1 235 (120 * Q + M) = w.1 235 (120 * Q + M)) (h6 : ∀ k, k < 30 → w'.1 236 (30 * (120 * Q + M) + k) = w.1 236 (30 * (120 * Q + M) + k)) (hs : ∀ k, S'.2.1 Q M k = S.2.1 Q M k) (hb : ∀ k, S'.2.2.1 Q M k = S.2.2.1 Q M k) : MMc w' S' Q M := by
  unfold MMc
  rw [h3, h4, h5, hs, hs]
  refine ⟨h.1, fun hr => ⟨(h.2 hr).1, (h.2 hr).2.1, fun k hk => ?_⟩⟩
  rw [h6 k hk, hb]
  exact (h.2 hr).2.2 k hk
theorem MP.fr {w w' : St} {S : RS} {P : Nat} (h : MP w S P) (hz : ∀ z, 224 ≤ z → z ≤ 236 → w'.1 z = w.1 z) (h15 : w'.1 221 15 = w.1 221 15) : MP w' S P :=
  ⟨h.1.fr (fun z a b => hz z a (by omega)), fun Q hQ M hM => (h.2.1 Q hQ M hM).fr (by rw [hz 233 (by decide) (by decide)]) (by rw [hz 234 (by decide) (by decide)]) (by rw [hz 235 (by decide) (by decide)]) (fun k hk => by rw [hz 236 (by decide) (by decide)]) (fun _ => rfl) (fun _ => rfl), by rw [h15]; exact h.2.2⟩
/-- a place entry of this person -/
theorem MP_pl {w w' : St} {S : RS} {P : Nat} {e : Nat → Int32} (h : MP w S P) (hP : P < 6) (e2 : e 2 = nI P) (h5 : e 1 ≠ 5) (h6 : e 1 ≠ 6) (h7 : e 1 ≠ 7) (h8 : e 1 ≠ 8) (h11 : e 1 ≠ 11) (hp : MPl w' (stP e (S.1 P))) (hz : ∀ z, 233 ≤ z → z ≤ 236 → w'.1 z = w.1 z) (h15 : w'.1 221 15 = w.1 221 15) : MP w' (lrn e S) P := by
  have hix : ix (e 2) = P := by rw [e2]; exact ix_nI (by omega)
  refine ⟨by rw [lrn_pl, if_pos hix.symm]; exact hp, fun Q hQ M hM => (h.2.1 Q hQ M hM).fr (by rw [hz 233 (by decide) (by decide)]) (by rw [hz 234 (by decide) (by decide)]) (by rw [hz 235 (by decide) (by decide)]) (fun k hk => by rw [hz 236 (by decide) (by decide)]) (fun k => by simp [lrn, h5, h7, h8]) (fun k => by simp [lrn, h5, h6, h8]), ?_⟩
  rw [h15]
  have : (lrn e S).2.2.2 P = S.2.2.2 P := by simp [lrn, h11]
  rw [this]
  exact h.2.2
/-- an entry of another person -/
theorem MP_ot {w : St} {S : RS} {P : Nat} {e : Nat → Int32} (h : MP w S P) (h2 : ix (e 2) ≠ P) (h5 : e 1 ≠ 5) (h6 : e 1 ≠ 6) (h7 : e 1 ≠ 7) (h8 : e 1 ≠ 8) : MP w (lrn e S) P := by
  refine ⟨by rw [lrn_pl, if_neg (fun z => h2 z.symm)]; exact h.1, fun Q hQ M hM => (h.2.1 Q hQ M hM).fr rfl rfl rfl (fun _ _ => rfl) (fun k => by simp [lrn, h5, h7, h8]) (fun k => by simp [lrn, h5, h6, h8]), ?_⟩
  have : (lrn e S).2.2.2 P = S.2.2.2 P := by
    simp only [lrn]
    rw [if_neg (fun z => h2 z.2.symm)]
  rw [this]
  exact h.2.2
/-- a month entry -/
theorem MP_mo {w w' : St} {S : RS} {P : Nat} {e : Nat → Int32} (h : MP w S P) (hc : e 1 = 5 ∨ e 1 = 6 ∨ e 1 = 7 ∨ e 1 = 8) (hm : ∀ Q, Q < 6 → ∀ M, M < 120 → MMc w' (lrn e S) Q M) (hz : ∀ z, 221 ≤ z → z ≤ 232 → w'.1 z = w.1 z) : MP w' (lrn e S) P := by
  have ep : (lrn e S).1 P = S.1 P := by
    rw [lrn_pl]
    split
    · rcases hc with h | h | h | h
      · exact stP_5 h
      · exact stP_6 h
      · exact stP_7 h
      · exact stP_8 h
    · rfl
  have eg : (lrn e S).2.2.2 P = S.2.2.2 P := by
    have : e 1 ≠ 11 := by rcases hc with h | h | h | h <;> rw [h] <;> decide
    simp [lrn, this]
  refine ⟨by rw [ep]; exact h.1.fr (fun z a b => hz z (by omega) b), hm, ?_⟩
  rw [eg, hz 221 (by decide) (by decide)]
  exact h.2.2
theorem bt_1c {s : Int32} {j : Nat} (hj : j < 32) : (s >>> (nI j &&& 31)) &&& 1 = 1 ↔ bt s j = true := by
  have h0 := nm_0 (s := s) hj
  constructor
  · intro h
    cases hb : bt s j
    · rw [h0.mpr hb] at h
      exact absurd h (by decide)
    · rfl
  · intro h
    apply b_ext
    intro i hi
    rw [b_and, bt_1]
    by_cases hi0 : i = 0
    · subst hi0
      rw [bt_sh hj, h]
      rfl
    · simp [hi0]
theorem MPl.c0 {w : St} {PP : Nat → Nat → Int32} {b : Nat} (h : MPl w PP) : MPl (wset w 224 b 1) (upP PP b 0 1) := by
  intro i hi
  obtain ⟨a0, a4, a6, a7, a8, a5, a1, a2, a3⟩ := h i hi
  by_cases e : i = b
  · subst e
    simp only [wset_1, upP]
    simp [a4, a6, a7, a8, a5]
  · simp only [wset_1, upP, e]
    simp
    exact ⟨a0, a4, a6, a7, a8, a5, fun x y => a1 ⟨x, y⟩, a2, fun x y => a3 ⟨x, y⟩⟩
theorem begin_MP {w w' : St} {P : Nat} (h1 : ∀ i, i < 12 → w'.1 224 i = 0 ∧ w'.1 228 i = 0 ∧ w'.1 229 i = 0 ∧ w'.1 230 i = 0 ∧ w'.1 231 i = 0 ∧ w'.1 232 i = -1) (h2 : ∀ j, j < 720 → w'.1 233 j = 0) (h3 : w'.1 221 15 = -1) : MP w' RS0 P := by
  refine ⟨fun i hi => ?_, fun Q hQ M hM => ?_, h3⟩
  · obtain ⟨a, b, c, d, e, f⟩ := h1 i hi
    rw [a, b, c, d, e, f]
    refine ⟨rfl, rfl, rfl, rfl, rfl, rfl, fun z => absurd z.1 (by show ¬ ((2 : Int32) ≤ 0); decide), fun z => ?_, fun z => absurd z.1 (by show ¬ ((2 : Int32) ≤ 0); decide)⟩
    rcases z with z | z
    · exact absurd (show (0 : Int32) = 6 from z) (by decide)
    · exact absurd (show (0 : Int32) = 7 from z) (by decide)
  · refine ⟨by rw [h2 _ (by omega)]; rfl, fun z => ?_⟩
    rcases z with z | z
    · exact absurd (show (0 : Int32) = 1 from z) (by decide)
    · exact absurd (show (0 : Int32) = 2 from z) (by decide)
abbrev T_X8_begin : Tr := fun lay av w Po => av = [.ref (lay 221)] ∧ ∀ w' : St, FrS w w' → (∀ P, MP w' RS0 P) → Po none w'
set_option maxRecDepth 100000 in
set_option maxHeartbeats 4000000 in
theorem c_X8_begin : Ct yX8_begin cX8_begin 2 none 0 0 0 T_X8_begin := by
  refine Ct.mk (by decide +kernel) ?_
  intro X av w Po hX hR hT
  obtain ⟨rfl, h⟩ := hT
  refine ⟨rfl, ?_⟩
  show A X 0 0 0 [some (.ref (xlay X 221)), none] [] w
  refine a_iconst (0) hX dX8_begin_0 (by decide) ?_
  refine a_istore_n (ls' := [_, _]) hX dX8_begin_1 (Nat.le_of_ble_eq_true rfl) rfl ?_
  have L2 : ∀ (fu1 : Nat) (i : Nat) (w2 : St), 12 - i < fu1 → (i ≤ 12) → (FrS w w2) → (∀ j, j < i → w2.1 224 j = 0 ∧ w2.1 228 j = 0 ∧ w2.1 229 j = 0 ∧ w2.1 230 j = 0 ∧ w2.1 231 j = 0 ∧ w2.1 232 j = -1) → A X 0 0 2 [some (.ref (xlay X 221)), some (.int (nI i))] [] w2 := by
    intro fu1
    induction fu1 with
    | zero => intro i w2 hmu; exact absurd hmu (Nat.not_lt_zero _)
    | succ fu1 ih1 =>
      intro i w2 hmu1 hi hf2 hz
      refine a_iload_n hX dX8_begin_2 rfl ?_
      refine a_bipush (12) hX dX8_begin_3 (by decide) ?_
      refine a_icmp_ge 56 hX dX8_begin_5 (by decide) (fun c_5 => ?_) (fun c_5 => ?_)
      · have hi12 : i = 12 := by
          have := le_of_c (b := 12) c_5 (by omega) (by omega)
          omega
        subst hi12
        refine a_iconst (0) hX dX8_begin_56 (by decide) ?_
        refine a_istore_n (ls' := [_, _]) hX dX8_begin_57 (Nat.le_of_ble_eq_true rfl) rfl ?_
        have L58 : ∀ (fu2 : Nat) (k : Nat) (w3 : St), 720 - k < fu2 → (k ≤ 720) → (Fr w2 w3 (fun z => z = 233)) → (∀ j, j < k → w3.1 233 j = 0) → A X 0 0 58 [some (.ref (xlay X 221)), some (.int (nI k))] [] w3 := by
          intro fu2
          induction fu2 with
          | zero => intro k w3 hmu; exact absurd hmu (Nat.not_lt_zero _)
          | succ fu2 ih2 =>
            intro k w3 hmu2 hk hf3 hz3
            refine a_iload_n hX dX8_begin_58 rfl ?_
            refine a_sipush (720) hX dX8_begin_59 (by decide) ?_
            refine a_icmp_ge 78 hX dX8_begin_62 (by decide) (fun c_62 => ?_) (fun c_62 => ?_)
            · refine a_aload_n hX dX8_begin_78 rfl ?_
              refine a_iconst (-1) hX dX8_begin_79 (by decide) ?_
              refine pf_X8_100 rfl hX dX8_begin_80 ?_
              refine a_vret hX hR dX8_begin_83 ⟨Nat.le_refl _, Nat.le_refl _⟩ ?_
              have hk7 : k = 720 := by
                have := le_of_c (b := 720) c_62 (by omega) (by omega)
                omega
              subst hk7
              refine h _ ((hf2.tr (FrS.fr hf3 (fun z hz => by omega))).f15 (Or.inl rfl)) (fun P => begin_MP (w := w) (fun j hj => ?_) (fun j hj => ?_) ?_)
              · rw [wset_ne _ _ _ _ (by decide), wset_ne _ _ _ _ (by decide), wset_ne _ _ _ _ (by decide), wset_ne _ _ _ _ (by decide), wset_ne _ _ _ _ (by decide), wset_ne _ _ _ _ (by decide), hf3.2 224 (by decide), hf3.2 228 (by decide), hf3.2 229 (by decide), hf3.2 230 (by decide), hf3.2 231 (by decide), hf3.2 232 (by decide)]
                exact hz j hj
              · rw [wset_ne _ _ _ _ (by decide)]
                exact hz3 j hj
              · rw [wset_1]; simp
            · have hk7 : k < 720 := lt_of_c (b := 720) c_62 (by omega) (by omega)
              refine a_aload_n hX dX8_begin_65 rfl ?_
              refine gf_X8_47 rfl hX dX8_begin_66 ?_
              refine a_iload_n hX dX8_begin_69 rfl ?_
              refine a_iconst (0) hX dX8_begin_70 (by decide) ?_
              refine a_iast (k) hX rfl rfl (show _ < 720 by omega) dX8_begin_71 ?_
              refine a_iinc (ls' := [_, _]) (nI (k + 1)) hX dX8_begin_72 rfl (nI_i1 k) rfl ?_
              refine a_goto 58 hX dX8_begin_75 (by decide) ?_
              refine ih2 (k + 1) _ (by omega) (by omega) (Fr.set hf3 rfl) (fun j hj => ?_)
              rw [wset_1]
              by_cases e : j = k
              · rw [if_pos ⟨rfl, e⟩]
              · rw [if_neg (fun z => e z.2)]
                exact hz3 j (by omega)
        exact L58 721 0 w2 (by omega) (by omega) Fr.rf (fun j hj => by omega)
      · have hi12 : i < 12 := lt_of_c (b := 12) c_5 (by omega) (by omega)
        refine a_aload_n hX dX8_begin_8 rfl ?_
        refine gf_X8_20 rfl hX dX8_begin_9 ?_
        refine a_iload_n hX dX8_begin_12 rfl ?_
        refine a_iconst (0) hX dX8_begin_13 (by decide) ?_
        refine a_iast (i) hX rfl rfl (show _ < 12 by omega) dX8_begin_14 ?_
        refine a_aload_n hX dX8_begin_15 rfl ?_
        refine gf_X8_32 rfl hX dX8_begin_16 ?_
        refine a_iload_n hX dX8_begin_19 rfl ?_
        refine a_iconst (0) hX dX8_begin_20 (by decide) ?_
        refine a_iast (i) hX rfl rfl (show _ < 12 by omega) dX8_begin_21 ?_
        refine a_aload_n hX dX8_begin_22 rfl ?_
        refine gf_X8_35 rfl hX dX8_begin_23 ?_
        refine a_iload_n hX dX8_begin_26 rfl ?_
        refine a_iconst (0) hX dX8_begin_27 (by decide) ?_
        refine a_iast (i) hX rfl rfl (show _ < 12 by omega) dX8_begin_28 ?_
        refine a_aload_n hX dX8_begin_29 rfl ?_
        refine gf_X8_38 rfl hX dX8_begin_30 ?_
        refine a_iload_n hX dX8_begin_33 rfl ?_
        refine a_iconst (0) hX dX8_begin_34 (by decide) ?_
        refine a_iast (i) hX rfl rfl (show _ < 12 by omega) dX8_begin_35 ?_
        refine a_aload_n hX dX8_begin_36 rfl ?_
        refine gf_X8_41 rfl hX dX8_begin_37 ?_
        refine a_iload_n hX dX8_begin_40 rfl ?_
        refine a_iconst (0) hX dX8_begin_41 (by decide) ?_
        refine a_iast (i) hX rfl rfl (show _ < 12 by omega) dX8_begin_42 ?_
        refine a_aload_n hX dX8_begin_43 rfl ?_
        refine gf_X8_44 rfl hX dX8_begin_44 ?_
        refine a_iload_n hX dX8_begin_47 rfl ?_
        refine a_iconst (-1) hX dX8_begin_48 (by decide) ?_
        refine a_iast (i) hX rfl rfl (show _ < 12 by omega) dX8_begin_49 ?_
        refine a_iinc (ls' := [_, _]) (nI (i + 1)) hX dX8_begin_50 rfl (nI_i1 i) rfl ?_
        refine a_goto 2 hX dX8_begin_53 (by decide) ?_
        refine ih1 (i + 1) _ (by omega) (by omega) ((((((hf2.set (by decide) (by decide)).set (by decide) (by decide)).set (by decide) (by decide)).set (by decide) (by decide)).set (by decide) (by decide)).set (by decide) (by decide)) (fun j hj => ?_)
        simp only [wset_1]
        by_cases e : j = i
        · subst e
          simp
        · simp [e]
          exact hz j (by omega)
  exact L2 13 0 w (by omega) (by omega) FrS.rf (fun j hj => by omega)
abbrev T_X8_months : Tr := fun lay av w Po => ∃ (m : Nat) (v c d : Int32), av = [.ref (lay 221), .int v, .int (nI m), .int c, .int d] ∧ (m < 720) ∧ ((v = 5 ∧ ∀ w' : St, Fr w w' (fun z => 233 ≤ z ∧ z ≤ 236) → w'.1 233 = upd (w.1 233) m 1 → w'.1 234 = upd (w.1 234) m (if c = 0 then 0 else 1) → w'.1 235 = upd (w.1 235) m d → (∀ k, k < 30 → w'.1 236 (30 * m + k) = 1) → (∀ x, ¬ (30 * m ≤ x ∧ x < 30 * m + 30) → w'.1 236 x = w.1 236 x) → Po none w') ∨ (v = 6 ∧ ∃ q, q < 30 ∧ c = nI q ∧ ∀ w' : St, w' = wset w 236 (30 * m + q) d → Po none w') ∨ (v = 7 ∧ ∀ w' : St, w' = wset w 233 m 2 → Po none w') ∨ (v = 8 ∧ (w.1 234 m = 0 ∨ w.1 234 m = 1) ∧ ∃ Q T, Q < 6 ∧ T < 120 ∧ c = nI Q ∧ d = nI T ∧ ∀ w' : St, Fr w w' (fun z => 233 ≤ z ∧ z ≤ 236) → w'.1 233 = upd (w.1 233) (120 * Q + T) 1 → w'.1 234 = upd (w.1 234) (120 * Q + T) (w.1 234 m) → w'.1 235 = upd (w.1 235) (120 * Q + T) (w.1 235 m) → (∀ k, k < 30 → w'.1 236 (30 * (120 * Q + T) + k) = w.1 236 (30 * m + k)) → (∀ x, ¬ (30 * (120 * Q + T) ≤ x ∧ x < 30 * (120 * Q + T) + 30) → w'.1 236 x = w.1 236 x) → Po none w'))
set_option maxRecDepth 100000 in
set_option maxHeartbeats 4000000 in
theorem c_X8_months : Ct yX8_months cX8_months 7 none 0 0 0 T_X8_months := by
  refine Ct.mk (by decide +kernel) ?_
  intro X av w Po hX hR hT
  obtain ⟨m, v, c, d, rfl, hm, h⟩ := hT
  refine ⟨rfl, ?_⟩
  show A X 0 0 0 [some (.ref (xlay X 221)), some (.int v), some (.int (nI m)), some (.int c), some (.int d), none, none] [] w
  rcases h with ⟨rfl, h⟩ | ⟨rfl, q, hq, rfl, h⟩ | ⟨rfl, h⟩ | ⟨rfl, hb, Q, T, hQ, hT, rfl, rfl, h⟩
  · refine a_iload_n hX dX8_months_0 rfl ?_
    refine a_iconst (5) hX dX8_months_1 (by decide) ?_
    refine a_icmp_ne 67 hX dX8_months_2 (by decide) (fun c_2 => ?_) (fun c_2 => ?_)
    · exact absurd rfl c_2
    · refine a_aload_n hX dX8_months_5 rfl ?_
      refine gf_X8_47 rfl hX dX8_months_6 ?_
      refine a_iload_n hX dX8_months_9 rfl ?_
      refine a_iconst (1) hX dX8_months_10 (by decide) ?_
      refine a_iast (m) hX rfl rfl (show _ < 720 by omega) dX8_months_11 ?_
      refine a_aload_n hX dX8_months_12 rfl ?_
      refine gf_X8_50 rfl hX dX8_months_13 ?_
      refine a_iload_n hX dX8_months_16 rfl ?_
      refine a_iload_n hX dX8_months_17 rfl ?_
      refine a_if_eq 25 hX dX8_months_18 (by decide) (fun c_18 => ?_) (fun c_18 => ?_)
      · refine a_iconst (0) hX dX8_months_25 (by decide) ?_
        refine a_zast (m) hX rfl rfl (show _ < 720 by omega) rfl dX8_months_26 ?_
        refine a_aload_n hX dX8_months_27 rfl ?_
        refine gf_X8_54 rfl hX dX8_months_28 ?_
        refine a_iload_n hX dX8_months_31 rfl ?_
        refine a_iload hX dX8_months_32 rfl ?_
        refine a_iast (m) hX rfl rfl (show _ < 720 by omega) dX8_months_34 ?_
        refine a_iconst (0) hX dX8_months_35 (by decide) ?_
        refine a_istore (ls' := [_, _, _, _, _, _, _]) hX dX8_months_36 (Nat.le_of_ble_eq_true rfl) rfl ?_
        have L38 : ∀ (fu1 : Nat) (k : Nat) (w2 : St), 30 - k < fu1 → (k ≤ 30) → (Fr (wset (wset (wset w 233 m 1) 234 m (if c = 0 then 0 else 1)) 235 m d) w2 (fun z => z = 236)) → (∀ j, j < k → w2.1 236 (30 * m + j) = 1) → (∀ x, ¬ (30 * m ≤ x ∧ x < 30 * m + 30) → w2.1 236 x = w.1 236 x) → A X 0 0 38 [some (.ref (xlay X 221)), some (.int 5), some (.int (nI m)), some (.int c), some (.int d), some (.int (nI k)), none] [] w2 := by
          intro fu1
          induction fu1 with
          | zero => intro k w2 hmu; exact absurd hmu (Nat.not_lt_zero _)
          | succ fu1 ih1 =>
            intro k w2 hmu1 hk hf2 hz ho
            refine a_iload hX dX8_months_38 rfl ?_
            refine a_bipush (30) hX dX8_months_40 (by decide) ?_
            refine a_icmp_ge 64 hX dX8_months_42 (by decide) (fun c_42 => ?_) (fun c_42 => ?_)
            · refine a_goto 189 hX dX8_months_64 (by decide) ?_
              refine a_vret hX hR dX8_months_189 ⟨Nat.le_refl _, Nat.le_refl _⟩ ?_
              first
              | (have hk30 : k = 30 := by
                   have := le_of_c (b := 30) c_42 (by omega) (by omega)
                   omega
                 subst hk30
                 refine h _ ⟨hf2.1, fun z hz => ?_⟩ ?_ ?_ ?_ hz ho
                 · rw [hf2.2 z (by omega), wset_ne _ _ _ _ (by omega), wset_ne _ _ _ _ (by omega), wset_ne _ _ _ _ (by omega)]
                 · rw [hf2.2 _ (by decide), wset_ne _ _ _ _ (by decide), wset_ne _ _ _ _ (by decide), wset_row]
                 · rw [hf2.2 _ (by decide), wset_ne _ _ _ _ (by decide), wset_row, wset_ne _ _ _ _ (by decide)]
                 · rw [hf2.2 _ (by decide), wset_row, wset_ne _ _ _ _ (by decide), wset_ne _ _ _ _ (by decide)])
              | exact h _ rfl
              | (have hk30 : k = 30 := by
                   have := le_of_c (b := 30) c_155 (by omega) (by omega)
                   omega
                 subst hk30
                 refine h _ ⟨hf2.1, fun z hz => ?_⟩ ?_ ?_ ?_ hz ho
                 · rw [hf2.2 z (by omega), wset_ne _ _ _ _ (by omega), wset_ne _ _ _ _ (by omega), wset_ne _ _ _ _ (by omega)]
                 · rw [hf2.2 _ (by decide), wset_ne _ _ _ _ (by decide), wset_ne _ _ _ _ (by decide), wset_row]
                 · rw [hf2.2 _ (by decide), wset_ne _ _ _ _ (by decide), wset_row, wset_ne _ _ _ _ (by decide)]
                 · rw [hf2.2 _ (by decide), wset_row, wset_ne _ _ _ _ (by decide), wset_ne _ _ _ _ (by decide)])
            · have hk30 : k < 30 := lt_of_c (b := 30) c_42 (by omega) (by omega)
              refine a_aload_n hX dX8_months_45 rfl ?_
              refine gf_X8_57 rfl hX dX8_months_46 ?_
              refine a_bipush (30) hX dX8_months_49 (by decide) ?_
              refine a_iload_n hX dX8_months_51 rfl ?_
              refine a_imul hX dX8_months_52 ?_
              refine a_iload hX dX8_months_53 rfl ?_
              refine a_iadd hX dX8_months_55 ?_
              refine a_iconst (1) hX dX8_months_56 (by decide) ?_
              rw [n30]
              refine a_iast (30 * m + k) hX rfl rfl (show _ < 21600 by omega) dX8_months_57 ?_
              refine a_iinc (ls' := [_, _, _, _, _, _, _]) (nI (k + 1)) hX dX8_months_58 rfl (nI_i1 k) rfl ?_
              refine a_goto 38 hX dX8_months_61 (by decide) ?_
              refine ih1 (k + 1) _ (by omega) (by omega) (Fr.set hf2 rfl) (fun j hj => ?_) (fun x hx => ?_)
              · rw [wset_1]
                by_cases e : j = k
                · rw [if_pos ⟨rfl, by omega⟩]
                · rw [if_neg (by omega)]
                  exact hz j (by omega)
              · rw [wset_1, if_neg (by omega)]
                exact ho x hx
        have hw5 : ∀ b : Int32, b = (if c = 0 then 0 else 1) → wset (wset (wset w 233 m 1) 234 m b) 235 m d = (wset (wset (wset w 233 m 1) 234 m (if c = 0 then 0 else 1)) 235 m d) := fun b hb => by rw [hb]
        rw [hw5 _ (by first | rw [if_pos c_18] | rw [if_neg c_18])]
        exact L38 31 0 _ (by omega) (by omega) Fr.rf (fun j hj => by omega) (fun x hx => by rw [wset_ne _ _ _ _ (by decide), wset_ne _ _ _ _ (by decide), wset_ne _ _ _ _ (by decide)])
      · refine a_iconst (1) hX dX8_months_21 (by decide) ?_
        refine a_goto 26 hX dX8_months_22 (by decide) ?_
        refine a_zast (m) hX rfl rfl (show _ < 720 by omega) rfl dX8_months_26 ?_
        refine a_aload_n hX dX8_months_27 rfl ?_
        refine gf_X8_54 rfl hX dX8_months_28 ?_
        refine a_iload_n hX dX8_months_31 rfl ?_
        refine a_iload hX dX8_months_32 rfl ?_
        refine a_iast (m) hX rfl rfl (show _ < 720 by omega) dX8_months_34 ?_
        refine a_iconst (0) hX dX8_months_35 (by decide) ?_
        refine a_istore (ls' := [_, _, _, _, _, _, _]) hX dX8_months_36 (Nat.le_of_ble_eq_true rfl) rfl ?_
        have L38 : ∀ (fu1 : Nat) (k : Nat) (w2 : St), 30 - k < fu1 → (k ≤ 30) → (Fr (wset (wset (wset w 233 m 1) 234 m (if c = 0 then 0 else 1)) 235 m d) w2 (fun z => z = 236)) → (∀ j, j < k → w2.1 236 (30 * m + j) = 1) → (∀ x, ¬ (30 * m ≤ x ∧ x < 30 * m + 30) → w2.1 236 x = w.1 236 x) → A X 0 0 38 [some (.ref (xlay X 221)), some (.int 5), some (.int (nI m)), some (.int c), some (.int d), some (.int (nI k)), none] [] w2 := by
          intro fu1
          induction fu1 with
          | zero => intro k w2 hmu; exact absurd hmu (Nat.not_lt_zero _)
          | succ fu1 ih1 =>
            intro k w2 hmu1 hk hf2 hz ho
            refine a_iload hX dX8_months_38 rfl ?_
            refine a_bipush (30) hX dX8_months_40 (by decide) ?_
            refine a_icmp_ge 64 hX dX8_months_42 (by decide) (fun c_42 => ?_) (fun c_42 => ?_)
            · refine a_goto 189 hX dX8_months_64 (by decide) ?_
              refine a_vret hX hR dX8_months_189 ⟨Nat.le_refl _, Nat.le_refl _⟩ ?_
              first
              | (have hk30 : k = 30 := by
                   have := le_of_c (b := 30) c_42 (by omega) (by omega)
                   omega
                 subst hk30
                 refine h _ ⟨hf2.1, fun z hz => ?_⟩ ?_ ?_ ?_ hz ho
                 · rw [hf2.2 z (by omega), wset_ne _ _ _ _ (by omega), wset_ne _ _ _ _ (by omega), wset_ne _ _ _ _ (by omega)]
                 · rw [hf2.2 _ (by decide), wset_ne _ _ _ _ (by decide), wset_ne _ _ _ _ (by decide), wset_row]
                 · rw [hf2.2 _ (by decide), wset_ne _ _ _ _ (by decide), wset_row, wset_ne _ _ _ _ (by decide)]
                 · rw [hf2.2 _ (by decide), wset_row, wset_ne _ _ _ _ (by decide), wset_ne _ _ _ _ (by decide)])
              | exact h _ rfl
              | (have hk30 : k = 30 := by
                   have := le_of_c (b := 30) c_155 (by omega) (by omega)
                   omega
                 subst hk30
                 refine h _ ⟨hf2.1, fun z hz => ?_⟩ ?_ ?_ ?_ hz ho
                 · rw [hf2.2 z (by omega), wset_ne _ _ _ _ (by omega), wset_ne _ _ _ _ (by omega), wset_ne _ _ _ _ (by omega)]
                 · rw [hf2.2 _ (by decide), wset_ne _ _ _ _ (by decide), wset_ne _ _ _ _ (by decide), wset_row]
                 · rw [hf2.2 _ (by decide), wset_ne _ _ _ _ (by decide), wset_row, wset_ne _ _ _ _ (by decide)]
                 · rw [hf2.2 _ (by decide), wset_row, wset_ne _ _ _ _ (by decide), wset_ne _ _ _ _ (by decide)])
            · have hk30 : k < 30 := lt_of_c (b := 30) c_42 (by omega) (by omega)
              refine a_aload_n hX dX8_months_45 rfl ?_
              refine gf_X8_57 rfl hX dX8_months_46 ?_
              refine a_bipush (30) hX dX8_months_49 (by decide) ?_
              refine a_iload_n hX dX8_months_51 rfl ?_
              refine a_imul hX dX8_months_52 ?_
              refine a_iload hX dX8_months_53 rfl ?_
              refine a_iadd hX dX8_months_55 ?_
              refine a_iconst (1) hX dX8_months_56 (by decide) ?_
              rw [n30]
              refine a_iast (30 * m + k) hX rfl rfl (show _ < 21600 by omega) dX8_months_57 ?_
              refine a_iinc (ls' := [_, _, _, _, _, _, _]) (nI (k + 1)) hX dX8_months_58 rfl (nI_i1 k) rfl ?_
              refine a_goto 38 hX dX8_months_61 (by decide) ?_
              refine ih1 (k + 1) _ (by omega) (by omega) (Fr.set hf2 rfl) (fun j hj => ?_) (fun x hx => ?_)
              · rw [wset_1]
                by_cases e : j = k
                · rw [if_pos ⟨rfl, by omega⟩]
                · rw [if_neg (by omega)]
                  exact hz j (by omega)
              · rw [wset_1, if_neg (by omega)]
                exact ho x hx
        have hw5 : ∀ b : Int32, b = (if c = 0 then 0 else 1) → wset (wset (wset w 233 m 1) 234 m b) 235 m d = (wset (wset (wset w 233 m 1) 234 m (if c = 0 then 0 else 1)) 235 m d) := fun b hb => by rw [hb]
        rw [hw5 _ (by first | rw [if_pos c_18] | rw [if_neg c_18])]
        exact L38 31 0 _ (by omega) (by omega) Fr.rf (fun j hj => by omega) (fun x hx => by rw [wset_ne _ _ _ _ (by decide), wset_ne _ _ _ _ (by decide), wset_ne _ _ _ _ (by decide)])
  · refine a_iload_n hX dX8_months_0 rfl ?_
    refine a_iconst (5) hX dX8_months_1 (by decide) ?_
    refine a_icmp_ne 67 hX dX8_months_2 (by decide) (fun c_2 => ?_) (fun c_2 => ?_)
    · refine a_iload_n hX dX8_months_67 rfl ?_
      refine a_bipush (6) hX dX8_months_68 (by decide) ?_
      refine a_icmp_ne 89 hX dX8_months_70 (by decide) (fun c_70 => ?_) (fun c_70 => ?_)
      · exact absurd rfl c_70
      · refine a_aload_n hX dX8_months_73 rfl ?_
        refine gf_X8_57 rfl hX dX8_months_74 ?_
        refine a_bipush (30) hX dX8_months_77 (by decide) ?_
        refine a_iload_n hX dX8_months_79 rfl ?_
        refine a_imul hX dX8_months_80 ?_
        refine a_iload_n hX dX8_months_81 rfl ?_
        refine a_iadd hX dX8_months_82 ?_
        refine a_iload hX dX8_months_83 rfl ?_
        rw [n30]
        refine a_iast (30 * m + q) hX rfl rfl (show _ < 21600 by omega) dX8_months_85 ?_
        refine a_goto 189 hX dX8_months_86 (by decide) ?_
        refine a_vret hX hR dX8_months_189 ⟨Nat.le_refl _, Nat.le_refl _⟩ ?_
        first
        | (have hk30 : k = 30 := by
             have := le_of_c (b := 30) c_42 (by omega) (by omega)
             omega
           subst hk30
           refine h _ ⟨hf2.1, fun z hz => ?_⟩ ?_ ?_ ?_ hz ho
           · rw [hf2.2 z (by omega), wset_ne _ _ _ _ (by omega), wset_ne _ _ _ _ (by omega), wset_ne _ _ _ _ (by omega)]
           · rw [hf2.2 _ (by decide), wset_ne _ _ _ _ (by decide), wset_ne _ _ _ _ (by decide), wset_row]
           · rw [hf2.2 _ (by decide), wset_ne _ _ _ _ (by decide), wset_row, wset_ne _ _ _ _ (by decide)]
           · rw [hf2.2 _ (by decide), wset_row, wset_ne _ _ _ _ (by decide), wset_ne _ _ _ _ (by decide)])
        | exact h _ rfl
        | (have hk30 : k = 30 := by
             have := le_of_c (b := 30) c_155 (by omega) (by omega)
             omega
           subst hk30
           refine h _ ⟨hf2.1, fun z hz => ?_⟩ ?_ ?_ ?_ hz ho
           · rw [hf2.2 z (by omega), wset_ne _ _ _ _ (by omega), wset_ne _ _ _ _ (by omega), wset_ne _ _ _ _ (by omega)]
           · rw [hf2.2 _ (by decide), wset_ne _ _ _ _ (by decide), wset_ne _ _ _ _ (by decide), wset_row]
           · rw [hf2.2 _ (by decide), wset_ne _ _ _ _ (by decide), wset_row, wset_ne _ _ _ _ (by decide)]
           · rw [hf2.2 _ (by decide), wset_row, wset_ne _ _ _ _ (by decide), wset_ne _ _ _ _ (by decide)])
    · exact absurd c_2 (by decide)
  · refine a_iload_n hX dX8_months_0 rfl ?_
    refine a_iconst (5) hX dX8_months_1 (by decide) ?_
    refine a_icmp_ne 67 hX dX8_months_2 (by decide) (fun c_2 => ?_) (fun c_2 => ?_)
    · refine a_iload_n hX dX8_months_67 rfl ?_
      refine a_bipush (6) hX dX8_months_68 (by decide) ?_
      refine a_icmp_ne 89 hX dX8_months_70 (by decide) (fun c_70 => ?_) (fun c_70 => ?_)
      · refine a_iload_n hX dX8_months_89 rfl ?_
        refine a_bipush (7) hX dX8_months_90 (by decide) ?_
        refine a_icmp_ne 105 hX dX8_months_92 (by decide) (fun c_92 => ?_) (fun c_92 => ?_)
        · exact absurd rfl c_92
        · refine a_aload_n hX dX8_months_95 rfl ?_
          refine gf_X8_47 rfl hX dX8_months_96 ?_
          refine a_iload_n hX dX8_months_99 rfl ?_
          refine a_iconst (2) hX dX8_months_100 (by decide) ?_
          refine a_iast (m) hX rfl rfl (show _ < 720 by omega) dX8_months_101 ?_
          refine a_goto 189 hX dX8_months_102 (by decide) ?_
          refine a_vret hX hR dX8_months_189 ⟨Nat.le_refl _, Nat.le_refl _⟩ ?_
          first
          | (have hk30 : k = 30 := by
               have := le_of_c (b := 30) c_42 (by omega) (by omega)
               omega
             subst hk30
             refine h _ ⟨hf2.1, fun z hz => ?_⟩ ?_ ?_ ?_ hz ho
             · rw [hf2.2 z (by omega), wset_ne _ _ _ _ (by omega), wset_ne _ _ _ _ (by omega), wset_ne _ _ _ _ (by omega)]
             · rw [hf2.2 _ (by decide), wset_ne _ _ _ _ (by decide), wset_ne _ _ _ _ (by decide), wset_row]
             · rw [hf2.2 _ (by decide), wset_ne _ _ _ _ (by decide), wset_row, wset_ne _ _ _ _ (by decide)]
             · rw [hf2.2 _ (by decide), wset_row, wset_ne _ _ _ _ (by decide), wset_ne _ _ _ _ (by decide)])
          | exact h _ rfl
          | (have hk30 : k = 30 := by
               have := le_of_c (b := 30) c_155 (by omega) (by omega)
               omega
             subst hk30
             refine h _ ⟨hf2.1, fun z hz => ?_⟩ ?_ ?_ ?_ hz ho
             · rw [hf2.2 z (by omega), wset_ne _ _ _ _ (by omega), wset_ne _ _ _ _ (by omega), wset_ne _ _ _ _ (by omega)]
             · rw [hf2.2 _ (by decide), wset_ne _ _ _ _ (by decide), wset_ne _ _ _ _ (by decide), wset_row]
             · rw [hf2.2 _ (by decide), wset_ne _ _ _ _ (by decide), wset_row, wset_ne _ _ _ _ (by decide)]
             · rw [hf2.2 _ (by decide), wset_row, wset_ne _ _ _ _ (by decide), wset_ne _ _ _ _ (by decide)])
      · exact absurd c_70 (by decide)
    · exact absurd c_2 (by decide)
  · refine a_iload_n hX dX8_months_0 rfl ?_
    refine a_iconst (5) hX dX8_months_1 (by decide) ?_
    refine a_icmp_ne 67 hX dX8_months_2 (by decide) (fun c_2 => ?_) (fun c_2 => ?_)
    · refine a_iload_n hX dX8_months_67 rfl ?_
      refine a_bipush (6) hX dX8_months_68 (by decide) ?_
      refine a_icmp_ne 89 hX dX8_months_70 (by decide) (fun c_70 => ?_) (fun c_70 => ?_)
      · refine a_iload_n hX dX8_months_89 rfl ?_
        refine a_bipush (7) hX dX8_months_90 (by decide) ?_
        refine a_icmp_ne 105 hX dX8_months_92 (by decide) (fun c_92 => ?_) (fun c_92 => ?_)
        · refine a_bipush (120) hX dX8_months_105 (by decide) ?_
          refine a_iload_n hX dX8_months_107 rfl ?_
          refine a_imul hX dX8_months_108 ?_
          refine a_iload hX dX8_months_109 rfl ?_
          refine a_iadd hX dX8_months_111 ?_
          rw [n120]
          refine a_istore (ls' := [_, _, _, _, _, _, _]) hX dX8_months_112 (Nat.le_of_ble_eq_true rfl) rfl ?_
          refine a_aload_n hX dX8_months_114 rfl ?_
          refine gf_X8_47 rfl hX dX8_months_115 ?_
          refine a_iload hX dX8_months_118 rfl ?_
          refine a_iconst (1) hX dX8_months_120 (by decide) ?_
          refine a_iast ((120 * Q + T)) hX rfl rfl (show _ < 720 by omega) dX8_months_121 ?_
          refine a_aload_n hX dX8_months_122 rfl ?_
          refine gf_X8_50 rfl hX dX8_months_123 ?_
          refine a_iload hX dX8_months_126 rfl ?_
          refine a_aload_n hX dX8_months_128 rfl ?_
          refine gf_X8_50 rfl hX dX8_months_129 ?_
          refine a_iload_n hX dX8_months_132 rfl ?_
          refine a_zald (m) hX rfl rfl (show _ < 720 by omega) dX8_months_133 ?_
          refine a_zast ((120 * Q + T)) hX rfl rfl (show _ < 720 by omega) (by rw [wset_ne _ _ _ _ (by decide)]; rcases hb with e | e <;> rw [e] <;> rfl) dX8_months_134 ?_
          refine a_aload_n hX dX8_months_135 rfl ?_
          refine gf_X8_54 rfl hX dX8_months_136 ?_
          refine a_iload hX dX8_months_139 rfl ?_
          refine a_aload_n hX dX8_months_141 rfl ?_
          refine gf_X8_54 rfl hX dX8_months_142 ?_
          refine a_iload_n hX dX8_months_145 rfl ?_
          refine a_iald (m) hX rfl rfl (show _ < 720 by omega) dX8_months_146 ?_
          refine a_iast ((120 * Q + T)) hX rfl rfl (show _ < 720 by omega) dX8_months_147 ?_
          refine a_iconst (0) hX dX8_months_148 (by decide) ?_
          refine a_istore (ls' := [_, _, _, _, _, _, _]) hX dX8_months_149 (Nat.le_of_ble_eq_true rfl) rfl ?_
          have L151 : ∀ (fu2 : Nat) (k : Nat) (w2 : St), 30 - k < fu2 → (k ≤ 30) → (Fr (wset (wset (wset w 233 (120 * Q + T) 1) 234 (120 * Q + T) (w.1 234 m)) 235 (120 * Q + T) (w.1 235 m)) w2 (fun z => z = 236)) → (∀ j, j < k → w2.1 236 (30 * (120 * Q + T) + j) = w.1 236 (30 * m + j)) → (∀ x, ¬ (30 * (120 * Q + T) ≤ x ∧ x < 30 * (120 * Q + T) + k) → w2.1 236 x = w.1 236 x) → A X 0 0 151 [some (.ref (xlay X 221)), some (.int 8), some (.int (nI m)), some (.int (nI Q)), some (.int (nI T)), some (.int (nI (120 * Q + T))), some (.int (nI k))] [] w2 := by
            intro fu2
            induction fu2 with
            | zero => intro k w2 hmu; exact absurd hmu (Nat.not_lt_zero _)
            | succ fu2 ih2 =>
              intro k w2 hmu2 hk hf2 hz ho
              refine a_iload hX dX8_months_151 rfl ?_
              refine a_bipush (30) hX dX8_months_153 (by decide) ?_
              refine a_icmp_ge 189 hX dX8_months_155 (by decide) (fun c_155 => ?_) (fun c_155 => ?_)
              · refine a_vret hX hR dX8_months_189 ⟨Nat.le_refl _, Nat.le_refl _⟩ ?_
                first
                | (have hk30 : k = 30 := by
                     have := le_of_c (b := 30) c_42 (by omega) (by omega)
                     omega
                   subst hk30
                   refine h _ ⟨hf2.1, fun z hz => ?_⟩ ?_ ?_ ?_ hz ho
                   · rw [hf2.2 z (by omega), wset_ne _ _ _ _ (by omega), wset_ne _ _ _ _ (by omega), wset_ne _ _ _ _ (by omega)]
                   · rw [hf2.2 _ (by decide), wset_ne _ _ _ _ (by decide), wset_ne _ _ _ _ (by decide), wset_row]
                   · rw [hf2.2 _ (by decide), wset_ne _ _ _ _ (by decide), wset_row, wset_ne _ _ _ _ (by decide)]
                   · rw [hf2.2 _ (by decide), wset_row, wset_ne _ _ _ _ (by decide), wset_ne _ _ _ _ (by decide)])
                | exact h _ rfl
                | (have hk30 : k = 30 := by
                     have := le_of_c (b := 30) c_155 (by omega) (by omega)
                     omega
                   subst hk30
                   refine h _ ⟨hf2.1, fun z hz => ?_⟩ ?_ ?_ ?_ hz ho
                   · rw [hf2.2 z (by omega), wset_ne _ _ _ _ (by omega), wset_ne _ _ _ _ (by omega), wset_ne _ _ _ _ (by omega)]
                   · rw [hf2.2 _ (by decide), wset_ne _ _ _ _ (by decide), wset_ne _ _ _ _ (by decide), wset_row]
                   · rw [hf2.2 _ (by decide), wset_ne _ _ _ _ (by decide), wset_row, wset_ne _ _ _ _ (by decide)]
                   · rw [hf2.2 _ (by decide), wset_row, wset_ne _ _ _ _ (by decide), wset_ne _ _ _ _ (by decide)])
              · have hk30 : k < 30 := lt_of_c (b := 30) c_155 (by omega) (by omega)
                refine a_aload_n hX dX8_months_158 rfl ?_
                refine gf_X8_57 rfl hX dX8_months_159 ?_
                refine a_bipush (30) hX dX8_months_162 (by decide) ?_
                refine a_iload hX dX8_months_164 rfl ?_
                refine a_imul hX dX8_months_166 ?_
                refine a_iload hX dX8_months_167 rfl ?_
                refine a_iadd hX dX8_months_169 ?_
                rw [n30]
                refine a_aload_n hX dX8_months_170 rfl ?_
                refine gf_X8_57 rfl hX dX8_months_171 ?_
                refine a_bipush (30) hX dX8_months_174 (by decide) ?_
                refine a_iload_n hX dX8_months_176 rfl ?_
                refine a_imul hX dX8_months_177 ?_
                refine a_iload hX dX8_months_178 rfl ?_
                refine a_iadd hX dX8_months_180 ?_
                rw [n30]
                refine a_iald (30 * m + k) hX rfl rfl (show _ < 21600 by omega) dX8_months_181 ?_
                refine a_iast (30 * (120 * Q + T) + k) hX rfl rfl (show _ < 21600 by omega) dX8_months_182 ?_
                refine a_iinc (ls' := [_, _, _, _, _, _, _]) (nI (k + 1)) hX dX8_months_183 rfl (nI_i1 k) rfl ?_
                refine a_goto 151 hX dX8_months_186 (by decide) ?_
                refine ih2 (k + 1) _ (by omega) (by omega) (Fr.set hf2 rfl) (fun j hj => ?_) (fun x hx => ?_)
                · rw [wset_1]
                  by_cases e : j = k
                  · rw [if_pos ⟨rfl, by omega⟩, e, ho _ (by omega)]
                  · rw [if_neg (by omega)]
                    exact hz j (by omega)
                · rw [wset_1, if_neg (by omega)]
                  exact ho x (by omega)
          have hw8 : wset (wset (wset w 233 (120 * Q + T) 1) 234 (120 * Q + T) ((wset w 233 (120 * Q + T) 1).1 234 m)) 235 (120 * Q + T) ((wset (wset w 233 (120 * Q + T) 1) 234 (120 * Q + T) ((wset w 233 (120 * Q + T) 1).1 234 m)).1 235 m) = (wset (wset (wset w 233 (120 * Q + T) 1) 234 (120 * Q + T) (w.1 234 m)) 235 (120 * Q + T) (w.1 235 m)) := rfl
          exact L151 31 0 _ (by omega) (by omega) Fr.rf (fun j hj => by omega) (fun x hx => by rw [wset_ne _ _ _ _ (by decide), wset_ne _ _ _ _ (by decide), wset_ne _ _ _ _ (by decide)])
        · exact absurd c_92 (by decide)
      · exact absurd c_70 (by decide)
    · exact absurd c_2 (by decide)
