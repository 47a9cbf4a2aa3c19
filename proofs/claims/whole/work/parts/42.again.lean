/-! the reference's replay of one entry -/
theorem mmc5 {w w' : St} {S : RS} {P M : Nat} {e : Nat → Int32} (h : ∀ Q, Q < 6 → ∀ K, K < 120 → MMc w S Q K) (hP : P < 6) (hM : M < 120) (e1 : e 1 = 5) (e2 : e 2 = nI P) (e3 : e 3 = nI M) (h3 : w'.1 233 = upd (w.1 233) (120 * P + M) 1) (h4 : w'.1 234 = upd (w.1 234) (120 * P + M) (if e 4 = 0 then 0 else 1)) (h5 : w'.1 235 = upd (w.1 235) (120 * P + M) (e 5)) (h6 : ∀ k, k < 30 → w'.1 236 (30 * (120 * P + M) + k) = 1) (h7 : ∀ x, ¬ (30 * (120 * P + M) ≤ x ∧ x < 30 * (120 * P + M) + 30) → w'.1 236 x = w.1 236 x) : ∀ Q, Q < 6 → ∀ K, K < 120 → MMc w' (lrn e S) Q K := by
  have hix : ix (e 2) = P := by rw [e2]; exact ix_nI (by omega)
  have hix3 : ix (e 3) = M := by rw [e3]; exact ix_nI (by omega)
  intro Q hQ K hK
  by_cases hc : Q = P ∧ K = M
  · obtain ⟨rfl, rfl⟩ := hc
    have s0 : (lrn e S).2.1 Q K 0 = if e 4 = 0 then 1 else 2 := by simp [lrn, e1, hix, hix3]
    have s1 : (lrn e S).2.1 Q K 1 = e 5 := by simp [lrn, e1, hix, hix3]
    have sb : ∀ k, (lrn e S).2.2.1 Q K k = true := fun k => by simp [lrn, e1, hix, hix3]
    unfold MMc
    rw [s0, s1, h3, h4, h5]
    simp only [upd, if_true]
    refine ⟨?_, fun _ => ⟨?_, trivial, fun k hk => ?_⟩⟩
    · by_cases h0 : e 4 = 0 <;> simp [h0]
    · by_cases h0 : e 4 = 0 <;> simp [h0]
    · rw [h6 k hk, sb]
      simp
  · have hne : ¬ (120 * Q + K = 120 * P + M) := fun z => hc (by omega)
    refine (h Q hQ K hK).fr (by rw [h3]; simp [upd, hne]) (by rw [h4]; simp [upd, hne]) (by rw [h5]; simp [upd, hne]) (fun k hk => h7 _ (by omega)) (fun k => ?_) (fun k => ?_)
    · simp only [lrn, e1, hix, hix3]
      simp [hc]
    · simp only [lrn, e1, hix, hix3]
      simp [hc]
theorem mmc6 {w w' : St} {S : RS} {P M q : Nat} {e : Nat → Int32} (h : ∀ Q, Q < 6 → ∀ K, K < 120 → MMc w S Q K) (hP : P < 6) (hM : M < 120) (hq : q < 30) (e1 : e 1 = 6) (e2 : e 2 = nI P) (e3 : e 3 = nI M) (e4 : e 4 = nI q) (hw : w' = wset w 236 (30 * (120 * P + M) + q) (e 5)) : ∀ Q, Q < 6 → ∀ K, K < 120 → MMc w' (lrn e S) Q K := by
  have hix : ix (e 2) = P := by rw [e2]; exact ix_nI (by omega)
  have hix3 : ix (e 3) = M := by rw [e3]; exact ix_nI (by omega)
  have hix4 : ix (e 4) = q := by rw [e4]; exact ix_nI (by omega)
  intro Q hQ K hK
  have hh := h Q hQ K hK
  have hs : ∀ k, (lrn e S).2.1 Q K k = S.2.1 Q K k := fun k => by simp [lrn, e1]
  subst hw
  by_cases hc : Q = P ∧ K = M
  · obtain ⟨rfl, rfl⟩ := hc
    unfold MMc
    rw [hs, hs, wset_ne _ _ _ _ (by decide), wset_ne _ _ _ _ (by decide), wset_ne _ _ _ _ (by decide)]
    refine ⟨hh.1, fun hr => ⟨(hh.2 hr).1, (hh.2 hr).2.1, fun k hk => ?_⟩⟩
    have sb : (lrn e S).2.2.1 Q K k = if k = q then decide (e 5 ≠ 0) else S.2.2.1 Q K k := by simp [lrn, e1, hix, hix3, hix4]
    rw [sb, wset_1]
    by_cases hkq : k = q
    · subst hkq
      simp
    · rw [if_neg (by omega), if_neg hkq]
      exact (hh.2 hr).2.2 k hk
  · have hne : ¬ (120 * Q + K = 120 * P + M) := fun z => hc (by omega)
    refine hh.fr (by rw [wset_ne _ _ _ _ (by decide)]) (by rw [wset_ne _ _ _ _ (by decide)]) (by rw [wset_ne _ _ _ _ (by decide)]) (fun k hk => by rw [wset_1, if_neg (by omega)]) hs (fun k => ?_)
    simp only [lrn, e1, hix, hix3]
    rw [if_neg (fun z => by simp at z), if_neg (fun z => hc ⟨z.2.1, z.2.2.1⟩), if_neg (fun z => by simp at z)]
theorem mmc7 {w w' : St} {S : RS} {P M : Nat} {e : Nat → Int32} (h : ∀ Q, Q < 6 → ∀ K, K < 120 → MMc w S Q K) (hP : P < 6) (hM : M < 120) (e1 : e 1 = 7) (e2 : e 2 = nI P) (e3 : e 3 = nI M) (hw : w' = wset w 233 (120 * P + M) 2) : ∀ Q, Q < 6 → ∀ K, K < 120 → MMc w' (lrn e S) Q K := by
  have hix : ix (e 2) = P := by rw [e2]; exact ix_nI (by omega)
  have hix3 : ix (e 3) = M := by rw [e3]; exact ix_nI (by omega)
  intro Q hQ K hK
  have hh := h Q hQ K hK
  subst hw
  by_cases hc : Q = P ∧ K = M
  · obtain ⟨rfl, rfl⟩ := hc
    have s0 : (lrn e S).2.1 Q K 0 = 3 := by simp [lrn, e1, hix, hix3]
    unfold MMc
    rw [s0, wset_1, if_pos ⟨rfl, rfl⟩]
    refine ⟨by decide, fun z => ?_⟩
    rcases z with z | z <;> exact absurd z (by decide)
  · have hne : ¬ (120 * Q + K = 120 * P + M) := fun z => hc (by omega)
    refine hh.fr (by rw [wset_1, if_neg (by omega)]) (by rw [wset_ne _ _ _ _ (by decide)]) (by rw [wset_ne _ _ _ _ (by decide)]) (fun k hk => by rw [wset_ne _ _ _ _ (by decide)]) (fun k => ?_) (fun k => by simp [lrn, e1])
    simp only [lrn, e1, hix, hix3]
    rw [if_neg (fun z => by simp at z), if_neg (fun z => hc ⟨z.2.1, z.2.2.1⟩), if_neg (fun z => by simp at z)]
theorem mmc8 {w w' : St} {S : RS} {P M O T : Nat} {e : Nat → Int32} (h : ∀ Q, Q < 6 → ∀ K, K < 120 → MMc w S Q K) (hP : P < 6) (hM : M < 120) (hO : O < 6) (hT : T < 120) (e1 : e 1 = 8) (e2 : e 2 = nI P) (e3 : e 3 = nI M) (e4 : e 4 = nI O) (e5 : e 5 = nI T) (hr : S.2.1 P M 0 = 1 ∨ S.2.1 P M 0 = 2) (h3 : w'.1 233 = upd (w.1 233) (120 * O + T) 1) (h4 : w'.1 234 = upd (w.1 234) (120 * O + T) (w.1 234 (120 * P + M))) (h5 : w'.1 235 = upd (w.1 235) (120 * O + T) (w.1 235 (120 * P + M))) (h6 : ∀ k, k < 30 → w'.1 236 (30 * (120 * O + T) + k) = w.1 236 (30 * (120 * P + M) + k)) (h7 : ∀ x, ¬ (30 * (120 * O + T) ≤ x ∧ x < 30 * (120 * O + T) + 30) → w'.1 236 x = w.1 236 x) : ∀ Q, Q < 6 → ∀ K, K < 120 → MMc w' (lrn e S) Q K := by
  have hix : ix (e 2) = P := by rw [e2]; exact ix_nI (by omega)
  have hix3 : ix (e 3) = M := by rw [e3]; exact ix_nI (by omega)
  have hix4 : ix (e 4) = O := by rw [e4]; exact ix_nI (by omega)
  have hix5 : ix (e 5) = T := by rw [e5]; exact ix_nI (by omega)
  have hs := (h P hP M hM).2 hr
  intro Q hQ K hK
  by_cases hc : Q = O ∧ K = T
  · obtain ⟨rfl, rfl⟩ := hc
    have sm : ∀ k, (lrn e S).2.1 Q K k = S.2.1 P M k := fun k => by simp [lrn, e1, hix, hix3, hix4, hix5]
    have sb : ∀ k, (lrn e S).2.2.1 Q K k = S.2.2.1 P M k := fun k => by simp [lrn, e1, hix, hix3, hix4, hix5]
    unfold MMc
    rw [sm, sm, h3, h4, h5]
    simp only [upd, if_true]
    refine ⟨?_, fun _ => ⟨hs.1, hs.2.1, fun k hk => by rw [h6 k hk, sb]; exact hs.2.2 k hk⟩⟩
    rcases hr with hr | hr <;> rw [hr] <;> decide
  · have hne : ¬ (120 * Q + K = 120 * O + T) := fun z => hc (by omega)
    refine (h Q hQ K hK).fr (by rw [h3]; simp [upd, hne]) (by rw [h4]; simp [upd, hne]) (by rw [h5]; simp [upd, hne]) (fun k hk => h7 _ (by omega)) (fun k => ?_) (fun k => ?_)
    · simp only [lrn, e1, hix, hix3, hix4, hix5]
      simp [hc]
    · simp only [lrn, e1, hix, hix3, hix4, hix5]
      simp [hc]
theorem MPl.c1 {w : St} {PP : Nat → Nat → Int32} {b : Nat} {f n : Int32} (h : MPl w PP) : MPl (wset (wset (wset w 224 b 2) 225 b f) 227 b n) (upP (upP (upP PP b 0 2) b 1 f) b 3 n) := by
  intro i hi
  have h9 := h i hi
  simp only [wset_1, upP]
  by_cases e : i = b
  · subst e; grind
  · grind
theorem MPl.c2 {w : St} {PP : Nat → Nat → Int32} {b : Nat} {k f n s : Int32} (h : MPl w PP) (hk : 3 ≤ k ∧ k ≤ 5) : MPl (wset (wset (wset (wset w 224 b k) 225 b f) 227 b n) 228 b s) (upP (upP (upP (upP PP b 0 k) b 1 f) b 3 n) b 4 s) := by
  have h6 : ¬ (k = 6 ∨ k = 7) := by
    rintro (rfl | rfl) <;> exact absurd hk.2 (by decide)
  intro i hi
  have h9 := h i hi
  simp only [wset_1, upP]
  by_cases e : i = b
  · subst e; grind
  · grind
theorem MPl.c3 {w : St} {PP : Nat → Nat → Int32} {b : Nat} {k f t s : Int32} (h : MPl w PP) (hk : k = 6 ∨ k = 7) : MPl (wset (wset (wset (wset w 224 b k) 225 b f) 226 b t) 228 b s) (upP (upP (upP (upP PP b 0 k) b 1 f) b 2 t) b 4 s) := by
  have h6 : ¬ (k ≤ 5) := by
    rcases hk with rfl | rfl <;> decide
  intro i hi
  have h9 := h i hi
  simp only [wset_1, upP]
  by_cases e : i = b
  · subst e; grind
  · grind
theorem MPl.c4 {w : St} {PP : Nat → Nat → Int32} {b y : Nat} {v : Int32} (h : MPl w PP) : MPl (wset (wset w 224 b 8) 232 y v) (upP (upP PP b 0 8) y 5 v) := by
  have h8 : ¬ ((8 : Int32) ≤ 7) := by decide
  have h5 : ¬ ((8 : Int32) ≤ 5) := by decide
  have h6 : ¬ ((8 : Int32) = 6) := by decide
  have h7 : ¬ ((8 : Int32) = 7) := by decide
  intro i hi
  have h9 := h i hi
  simp only [wset_1, upP]
  by_cases e : i = b
  · subst e; grind
  · grind
theorem MPl.c9 {w : St} {PP : Nat → Nat → Int32} {b : Nat} {k f : Int32} (h : MPl w PP) : MPl (wset (wset w 229 b k) 230 b f) (upP (upP PP b 6 k) b 7 f) := by
  intro i hi
  have h9 := h i hi
  simp only [wset_1, upP]
  by_cases e : i = b
  · subst e; grind
  · grind
theorem MPl.c10 {w : St} {PP : Nat → Nat → Int32} {b : Nat} {d : Int32} (hb : b < 12) (h : MPl w PP) : MPl (wset w 231 b (w.1 231 b + d)) (upP PP b 8 (PP b 8 + d)) := by
  intro i hi
  have h9 := h i hi
  have hbb := h b hb
  simp only [wset_1, upP]
  by_cases e : i = b
  · subst e; grind
  · grind
theorem MP_gr {w : St} {S : RS} {P : Nat} {e : Nat → Int32} (h : MP w S P) (hP : P < 6) (e1 : e 1 = 11) (e2 : e 2 = nI P) : MP (wset w 221 15 (e 3)) (lrn e S) P := by
  have hix : ix (e 2) = P := by rw [e2]; exact ix_nI (by omega)
  refine ⟨by rw [lrn_pl, if_pos hix.symm, stP_11 e1]; exact h.1.fr (fun z a b => wset_ne _ _ _ _ (by omega)), fun Q hQ M hM => (h.2.1 Q hQ M hM).fr (by rw [wset_ne _ _ _ _ (by decide)]) (by rw [wset_ne _ _ _ _ (by decide)]) (by rw [wset_ne _ _ _ _ (by decide)]) (fun k hk => by rw [wset_ne _ _ _ _ (by decide)]) (fun k => by simp [lrn, e1]) (fun k => by simp [lrn, e1]), ?_⟩
  rw [wset_1]
  simp [lrn, e1, hix]
abbrev T_X8_again : Tr := fun lay av w Po => ∃ (g : Sg) (P i : Nat), av = [.ref (lay 221), .int (nI P), .int (nI i)] ∧ (MD g w) ∧ (okS g) ∧ (i < gn g) ∧ (P < 6) ∧ (MP w (rpl (gL g) i) P) ∧ ∀ w' : St, FrS w w' → MP w' (rpl (gL g) (i + 1)) P → Po none w'
set_option maxRecDepth 100000 in
set_option maxHeartbeats 4000000 in
theorem c_X8_again : Ct yX8_again cX8_again 9 none 1 0 0 T_X8_again := by
  refine Ct.mk (by decide +kernel) ?_
  intro X av w Po hX hR hT
  obtain ⟨g, P, i, rfl, hD, ho, hi, hP, hM, h⟩ := hT
  refine ⟨rfl, ?_⟩
  show A X 0 0 0 [some (.ref (xlay X 221)), some (.int (nI P)), some (.int (nI i)), none, none, none, none, none, none] [] w
  have hn4 := ho.1.1
  have hE : ∀ j, j < 8 → w.1 222 (8 * i + j) = gL g i j := fun j hj => hD.2.1 i hi j hj
  obtain ⟨-, hv, hvm⟩ := ho.2.2.2.1 i hi
  refine a_bipush (8) hX dX8_again_0 (by decide) ?_
  refine a_iload_n hX dX8_again_2 rfl ?_
  refine a_imul hX dX8_again_3 ?_
  refine a_iconst (2) hX dX8_again_4 (by decide) ?_
  refine a_iadd hX dX8_again_5 ?_
  rw [show (8 : Int32) * nI i + 2 = nI (8 * i + 2) from n8 i 2]
  refine a_istore_n (ls' := [_, _, _, _, _, _, _, _, _]) hX dX8_again_6 (Nat.le_of_ble_eq_true rfl) rfl ?_
  refine a_aload_n hX dX8_again_7 rfl ?_
  refine gf_X8_13 rfl hX dX8_again_8 ?_
  refine a_iload_n hX dX8_again_11 rfl ?_
  refine a_iald ((8 * i + 2)) hX rfl rfl (show _ < 3200 by omega) dX8_again_12 ?_
  rw [hE 2 (by decide)]
  refine a_istore (ls' := [_, _, _, _, _, _, _, _, _]) hX dX8_again_13 (Nat.le_of_ble_eq_true rfl) rfl ?_
  refine a_aload_n hX dX8_again_15 rfl ?_
  refine gf_X8_13 rfl hX dX8_again_16 ?_
  refine a_iload_n hX dX8_again_19 rfl ?_
  refine a_iconst (1) hX dX8_again_20 (by decide) ?_
  refine a_iadd hX dX8_again_21 ?_
  rw [show nI (8 * i + 2) + 1 = nI (8 * i + 3) from nI_1 _]
  refine a_iald ((8 * i + 3)) hX rfl rfl (show _ < 3200 by omega) dX8_again_22 ?_
  rw [hE 3 (by decide)]
  refine a_istore (ls' := [_, _, _, _, _, _, _, _, _]) hX dX8_again_23 (Nat.le_of_ble_eq_true rfl) rfl ?_
  refine a_aload_n hX dX8_again_25 rfl ?_
  refine gf_X8_13 rfl hX dX8_again_26 ?_
  refine a_iload_n hX dX8_again_29 rfl ?_
  refine a_iconst (2) hX dX8_again_30 (by decide) ?_
  refine a_iadd hX dX8_again_31 ?_
  rw [show nI (8 * i + 2) + 2 = nI (8 * i + 4) from nI_add _ 2]
  refine a_iald ((8 * i + 4)) hX rfl rfl (show _ < 3200 by omega) dX8_again_32 ?_
  rw [hE 4 (by decide)]
  refine a_istore (ls' := [_, _, _, _, _, _, _, _, _]) hX dX8_again_33 (Nat.le_of_ble_eq_true rfl) rfl ?_
  refine a_aload_n hX dX8_again_35 rfl ?_
  refine gf_X8_13 rfl hX dX8_again_36 ?_
  refine a_iload_n hX dX8_again_39 rfl ?_
  refine a_iconst (3) hX dX8_again_40 (by decide) ?_
  refine a_iadd hX dX8_again_41 ?_
  rw [show nI (8 * i + 2) + 3 = nI (8 * i + 5) from nI_add _ 3]
  refine a_iald ((8 * i + 5)) hX rfl rfl (show _ < 3200 by omega) dX8_again_42 ?_
  rw [hE 5 (by decide)]
  refine a_istore (ls' := [_, _, _, _, _, _, _, _, _]) hX dX8_again_43 (Nat.le_of_ble_eq_true rfl) rfl ?_
  refine a_aload_n hX dX8_again_45 rfl ?_
  refine gf_X8_13 rfl hX dX8_again_46 ?_
  refine a_bipush (8) hX dX8_again_49 (by decide) ?_
  refine a_iload_n hX dX8_again_51 rfl ?_
  refine a_imul hX dX8_again_52 ?_
  refine a_iconst (1) hX dX8_again_53 (by decide) ?_
  refine a_iadd hX dX8_again_54 ?_
  rw [show (8 : Int32) * nI i + 1 = nI (8 * i + 1) from n8 i 1]
  refine a_iald ((8 * i + 1)) hX rfl rfl (show _ < 3200 by omega) dX8_again_55 ?_
  rw [hE 1 (by decide)]
  refine a_istore (ls' := [_, _, _, _, _, _, _, _, _]) hX dX8_again_56 (Nat.le_of_ble_eq_true rfl) rfl ?_
  obtain ⟨Pe, hPe, e2, hv⟩ := hv
  rcases hv with ⟨e1 | e1 | e1 | e1 | e1 | e1 | e1, b, hb, e3⟩ | ⟨e1, b, hb, e3, z, hz, e4⟩ | ⟨e1, M, hMM, e3, n, hn, e5⟩ | ⟨e1, M, hMM, e3, q, hq, e4, hql⟩ | ⟨e1, M, hMM, e3⟩ | ⟨e1, M, hMM, e3, Q, hQ, e4, T, hT, e5⟩ | e1
  · rw [e1, e2, e3]; have hb9 : ix (gL g i 3) = b := by rw [e3]; exact ix_nI (by omega)
    refine a_iload hX dX8_again_58 rfl ?_
    refine a_iconst (5) hX dX8_again_60 (by decide) ?_
    refine a_icmp_lt 90 hX dX8_again_61 (by decide) (fun c_61 => ?_) (fun c_61 => ?_)
    · refine a_iload hX dX8_again_90 rfl ?_
      refine a_iload_n hX dX8_again_92 rfl ?_
      refine a_icmp_eq 97 hX dX8_again_93 (by decide) (fun c_93 => ?_) (fun c_93 => ?_)
      · have hPe : Pe = P := (nI_eq (by omega) (by omega)).mp c_93
        subst hPe
        refine a_iload hX dX8_again_97 rfl ?_
        refine a_tableIn (off := 61) 160 hX dX8_again_99 (by decide) (by decide) (by decide) (by decide) ?_
        refine a_aload_n hX dX8_again_160 rfl ?_
        refine gf_X8_20 rfl hX dX8_again_161 ?_
        refine a_iload hX dX8_again_164 rfl ?_
        refine a_iconst (1) hX dX8_again_166 (by decide) ?_
        refine a_iast (b) hX rfl rfl (show _ < 12 by omega) dX8_again_167 ?_
        refine a_goto 398 hX dX8_again_168 (by decide) ?_
        refine a_vret hX hR dX8_again_398 ⟨Nat.le_refl _, Nat.le_refl _⟩ ?_
        refine h _ (FrS.rf.set (by decide) (by decide)) ?_
        rw [rpl_succ]
        refine (MP_pl hM hP e2 (by rw [e1]; decide) (by rw [e1]; decide) (by rw [e1]; decide) (by rw [e1]; decide) (by rw [e1]; decide) (?_) (fun z h1 h2 => by repeat (rw [wset_ne _ _ _ _ (by omega)])) (by repeat (rw [wset_ne _ _ _ _ (by decide)])))
        rw [stP_0 e1, hb9]
        exact hM.1.c0
      · refine a_vret hX hR dX8_again_96 ⟨Nat.le_refl _, Nat.le_refl _⟩ ?_
        exact h w FrS.rf (by rw [rpl_succ]; exact MP_ot hM (by rw [e2, ix_nI (by omega)]; intro z; exact c_93 (by rw [z])) (by rw [e1]; decide) (by rw [e1]; decide) (by rw [e1]; decide) (by rw [e1]; decide))
    · exact absurd (by decide) c_61
  · rw [e1, e2, e3]; have hb9 : ix (gL g i 3) = b := by rw [e3]; exact ix_nI (by omega)
    refine a_iload hX dX8_again_58 rfl ?_
    refine a_iconst (5) hX dX8_again_60 (by decide) ?_
    refine a_icmp_lt 90 hX dX8_again_61 (by decide) (fun c_61 => ?_) (fun c_61 => ?_)
    · refine a_iload hX dX8_again_90 rfl ?_
      refine a_iload_n hX dX8_again_92 rfl ?_
      refine a_icmp_eq 97 hX dX8_again_93 (by decide) (fun c_93 => ?_) (fun c_93 => ?_)
      · have hPe : Pe = P := (nI_eq (by omega) (by omega)).mp c_93
        subst hPe
        refine a_iload hX dX8_again_97 rfl ?_
        refine a_tableIn (off := 72) 171 hX dX8_again_99 (by decide) (by decide) (by decide) (by decide) ?_
        refine a_aload_n hX dX8_again_171 rfl ?_
        refine gf_X8_20 rfl hX dX8_again_172 ?_
        refine a_iload hX dX8_again_175 rfl ?_
        refine a_iconst (2) hX dX8_again_177 (by decide) ?_
        refine a_iast (b) hX rfl rfl (show _ < 12 by omega) dX8_again_178 ?_
        refine a_aload_n hX dX8_again_179 rfl ?_
        refine gf_X8_23 rfl hX dX8_again_180 ?_
        refine a_iload hX dX8_again_183 rfl ?_
        refine a_iload hX dX8_again_185 rfl ?_
        refine a_iast (b) hX rfl rfl (show _ < 12 by omega) dX8_again_187 ?_
        refine a_aload_n hX dX8_again_188 rfl ?_
        refine gf_X8_29 rfl hX dX8_again_189 ?_
        refine a_iload hX dX8_again_192 rfl ?_
        refine a_iload hX dX8_again_194 rfl ?_
        refine a_iast (b) hX rfl rfl (show _ < 12 by omega) dX8_again_196 ?_
        refine a_goto 398 hX dX8_again_197 (by decide) ?_
        refine a_vret hX hR dX8_again_398 ⟨Nat.le_refl _, Nat.le_refl _⟩ ?_
        refine h _ (((FrS.rf.set (by decide) (by decide)).set (by decide) (by decide)).set (by decide) (by decide)) ?_
        rw [rpl_succ]
        refine (MP_pl hM hP e2 (by rw [e1]; decide) (by rw [e1]; decide) (by rw [e1]; decide) (by rw [e1]; decide) (by rw [e1]; decide) (?_) (fun z h1 h2 => by repeat (rw [wset_ne _ _ _ _ (by omega)])) (by repeat (rw [wset_ne _ _ _ _ (by decide)])))
        rw [stP_1 e1, hb9]
        exact hM.1.c1
      · refine a_vret hX hR dX8_again_96 ⟨Nat.le_refl _, Nat.le_refl _⟩ ?_
        exact h w FrS.rf (by rw [rpl_succ]; exact MP_ot hM (by rw [e2, ix_nI (by omega)]; intro z; exact c_93 (by rw [z])) (by rw [e1]; decide) (by rw [e1]; decide) (by rw [e1]; decide) (by rw [e1]; decide))
    · exact absurd (by decide) c_61
  · rw [e1, e2, e3]; have hb9 : ix (gL g i 3) = b := by rw [e3]; exact ix_nI (by omega)
    refine a_iload hX dX8_again_58 rfl ?_
    refine a_iconst (5) hX dX8_again_60 (by decide) ?_
    refine a_icmp_lt 90 hX dX8_again_61 (by decide) (fun c_61 => ?_) (fun c_61 => ?_)
    · refine a_iload hX dX8_again_90 rfl ?_
      refine a_iload_n hX dX8_again_92 rfl ?_
      refine a_icmp_eq 97 hX dX8_again_93 (by decide) (fun c_93 => ?_) (fun c_93 => ?_)
      · have hPe : Pe = P := (nI_eq (by omega) (by omega)).mp c_93
        subst hPe
        refine a_iload hX dX8_again_97 rfl ?_
        refine a_tableIn (off := 101) 200 hX dX8_again_99 (by decide) (by decide) (by decide) (by decide) ?_
        refine a_aload_n hX dX8_again_200 rfl ?_
        refine gf_X8_20 rfl hX dX8_again_201 ?_
        refine a_iload hX dX8_again_204 rfl ?_
        refine a_iload hX dX8_again_206 rfl ?_
        refine a_iast (b) hX rfl rfl (show _ < 12 by omega) dX8_again_208 ?_
        refine a_aload_n hX dX8_again_209 rfl ?_
        refine gf_X8_23 rfl hX dX8_again_210 ?_
        refine a_iload hX dX8_again_213 rfl ?_
        refine a_iload hX dX8_again_215 rfl ?_
        refine a_iast (b) hX rfl rfl (show _ < 12 by omega) dX8_again_217 ?_
        refine a_aload_n hX dX8_again_218 rfl ?_
        refine gf_X8_29 rfl hX dX8_again_219 ?_
        refine a_iload hX dX8_again_222 rfl ?_
        refine a_aload_n hX dX8_again_224 rfl ?_
        refine gf_X8_13 rfl hX dX8_again_225 ?_
        refine a_iload_n hX dX8_again_228 rfl ?_
        refine a_iconst (4) hX dX8_again_229 (by decide) ?_
        refine a_iadd hX dX8_again_230 ?_
        rw [show nI (8 * i + 2) + 4 = nI (8 * i + 6) from nI_add _ 4]
        refine a_iald ((8 * i + 6)) hX rfl rfl (show _ < 3200 by omega) dX8_again_231 ?_
        rw [show (wset (wset w 224 b (gL g i 4)) 225 b (gL g i 5)).1 222 (8 * i + 6) = gL g i 6 from by repeat (rw [wset_ne _ _ _ _ (by decide)]); exact hE 6 (by decide)]
        refine a_iast (b) hX rfl rfl (show _ < 12 by omega) dX8_again_232 ?_
        refine a_aload_n hX dX8_again_233 rfl ?_
        refine gf_X8_32 rfl hX dX8_again_234 ?_
        refine a_iload hX dX8_again_237 rfl ?_
        refine a_aload_n hX dX8_again_239 rfl ?_
        refine gf_X8_13 rfl hX dX8_again_240 ?_
        refine a_iload_n hX dX8_again_243 rfl ?_
        refine a_iconst (5) hX dX8_again_244 (by decide) ?_
        refine a_iadd hX dX8_again_245 ?_
        rw [show nI (8 * i + 2) + 5 = nI (8 * i + 7) from nI_add _ 5]
        refine a_iald ((8 * i + 7)) hX rfl rfl (show _ < 3200 by omega) dX8_again_246 ?_
        rw [show (wset (wset (wset w 224 b (gL g i 4)) 225 b (gL g i 5)) 227 b (gL g i 6)).1 222 (8 * i + 7) = gL g i 7 from by repeat (rw [wset_ne _ _ _ _ (by decide)]); exact hE 7 (by decide)]
        refine a_iast (b) hX rfl rfl (show _ < 12 by omega) dX8_again_247 ?_
        refine a_goto 398 hX dX8_again_248 (by decide) ?_
        refine a_vret hX hR dX8_again_398 ⟨Nat.le_refl _, Nat.le_refl _⟩ ?_
        refine h _ ((((FrS.rf.set (by decide) (by decide)).set (by decide) (by decide)).set (by decide) (by decide)).set (by decide) (by decide)) ?_
        rw [rpl_succ]
        refine (MP_pl hM hP e2 (by rw [e1]; decide) (by rw [e1]; decide) (by rw [e1]; decide) (by rw [e1]; decide) (by rw [e1]; decide) (?_) (fun z h1 h2 => by repeat (rw [wset_ne _ _ _ _ (by omega)])) (by repeat (rw [wset_ne _ _ _ _ (by decide)])))
        rw [stP_2 e1, hb9]
        exact hM.1.c2 (hvm.1 e1)
      · refine a_vret hX hR dX8_again_96 ⟨Nat.le_refl _, Nat.le_refl _⟩ ?_
        exact h w FrS.rf (by rw [rpl_succ]; exact MP_ot hM (by rw [e2, ix_nI (by omega)]; intro z; exact c_93 (by rw [z])) (by rw [e1]; decide) (by rw [e1]; decide) (by rw [e1]; decide) (by rw [e1]; decide))
    · exact absurd (by decide) c_61
  · rw [e1, e2, e3]; have hb9 : ix (gL g i 3) = b := by rw [e3]; exact ix_nI (by omega)
    refine a_iload hX dX8_again_58 rfl ?_
    refine a_iconst (5) hX dX8_again_60 (by decide) ?_
    refine a_icmp_lt 90 hX dX8_again_61 (by decide) (fun c_61 => ?_) (fun c_61 => ?_)
    · refine a_iload hX dX8_again_90 rfl ?_
      refine a_iload_n hX dX8_again_92 rfl ?_
      refine a_icmp_eq 97 hX dX8_again_93 (by decide) (fun c_93 => ?_) (fun c_93 => ?_)
      · have hPe : Pe = P := (nI_eq (by omega) (by omega)).mp c_93
        subst hPe
        refine a_iload hX dX8_again_97 rfl ?_
        refine a_tableIn (off := 152) 251 hX dX8_again_99 (by decide) (by decide) (by decide) (by decide) ?_
        refine a_aload_n hX dX8_again_251 rfl ?_
        refine gf_X8_20 rfl hX dX8_again_252 ?_
        refine a_iload hX dX8_again_255 rfl ?_
        refine a_iload hX dX8_again_257 rfl ?_
        refine a_iast (b) hX rfl rfl (show _ < 12 by omega) dX8_again_259 ?_
        refine a_aload_n hX dX8_again_260 rfl ?_
        refine gf_X8_23 rfl hX dX8_again_261 ?_
        refine a_iload hX dX8_again_264 rfl ?_
        refine a_iload hX dX8_again_266 rfl ?_
        refine a_iast (b) hX rfl rfl (show _ < 12 by omega) dX8_again_268 ?_
        refine a_aload_n hX dX8_again_269 rfl ?_
        refine gf_X8_26 rfl hX dX8_again_270 ?_
        refine a_iload hX dX8_again_273 rfl ?_
        refine a_aload_n hX dX8_again_275 rfl ?_
        refine gf_X8_13 rfl hX dX8_again_276 ?_
        refine a_iload_n hX dX8_again_279 rfl ?_
        refine a_iconst (4) hX dX8_again_280 (by decide) ?_
        refine a_iadd hX dX8_again_281 ?_
        rw [show nI (8 * i + 2) + 4 = nI (8 * i + 6) from nI_add _ 4]
        refine a_iald ((8 * i + 6)) hX rfl rfl (show _ < 3200 by omega) dX8_again_282 ?_
        rw [show (wset (wset w 224 b (gL g i 4)) 225 b (gL g i 5)).1 222 (8 * i + 6) = gL g i 6 from by repeat (rw [wset_ne _ _ _ _ (by decide)]); exact hE 6 (by decide)]
        refine a_iast (b) hX rfl rfl (show _ < 12 by omega) dX8_again_283 ?_
        refine a_aload_n hX dX8_again_284 rfl ?_
        refine gf_X8_32 rfl hX dX8_again_285 ?_
        refine a_iload hX dX8_again_288 rfl ?_
        refine a_aload_n hX dX8_again_290 rfl ?_
        refine gf_X8_13 rfl hX dX8_again_291 ?_
        refine a_iload_n hX dX8_again_294 rfl ?_
        refine a_iconst (5) hX dX8_again_295 (by decide) ?_
        refine a_iadd hX dX8_again_296 ?_
        rw [show nI (8 * i + 2) + 5 = nI (8 * i + 7) from nI_add _ 5]
        refine a_iald ((8 * i + 7)) hX rfl rfl (show _ < 3200 by omega) dX8_again_297 ?_
        rw [show (wset (wset (wset w 224 b (gL g i 4)) 225 b (gL g i 5)) 226 b (gL g i 6)).1 222 (8 * i + 7) = gL g i 7 from by repeat (rw [wset_ne _ _ _ _ (by decide)]); exact hE 7 (by decide)]
        refine a_iast (b) hX rfl rfl (show _ < 12 by omega) dX8_again_298 ?_
        refine a_goto 398 hX dX8_again_299 (by decide) ?_
        refine a_vret hX hR dX8_again_398 ⟨Nat.le_refl _, Nat.le_refl _⟩ ?_
        refine h _ ((((FrS.rf.set (by decide) (by decide)).set (by decide) (by decide)).set (by decide) (by decide)).set (by decide) (by decide)) ?_
        rw [rpl_succ]
        refine (MP_pl hM hP e2 (by rw [e1]; decide) (by rw [e1]; decide) (by rw [e1]; decide) (by rw [e1]; decide) (by rw [e1]; decide) (?_) (fun z h1 h2 => by repeat (rw [wset_ne _ _ _ _ (by omega)])) (by repeat (rw [wset_ne _ _ _ _ (by decide)])))
        rw [stP_3 e1, hb9]
        exact hM.1.c3 (hvm.2.1 e1)
      · refine a_vret hX hR dX8_again_96 ⟨Nat.le_refl _, Nat.le_refl _⟩ ?_
        exact h w FrS.rf (by rw [rpl_succ]; exact MP_ot hM (by rw [e2, ix_nI (by omega)]; intro z; exact c_93 (by rw [z])) (by rw [e1]; decide) (by rw [e1]; decide) (by rw [e1]; decide) (by rw [e1]; decide))
    · exact absurd (by decide) c_61
  · rw [e1, e2, e3]; have hb9 : ix (gL g i 3) = b := by rw [e3]; exact ix_nI (by omega)
    refine a_iload hX dX8_again_58 rfl ?_
    refine a_iconst (5) hX dX8_again_60 (by decide) ?_
    refine a_icmp_lt 90 hX dX8_again_61 (by decide) (fun c_61 => ?_) (fun c_61 => ?_)
    · exact absurd c_61 (by decide)
    · refine a_iload hX dX8_again_64 rfl ?_
      refine a_bipush (8) hX dX8_again_66 (by decide) ?_
      refine a_icmp_gt 90 hX dX8_again_68 (by decide) (fun c_68 => ?_) (fun c_68 => ?_)
      · refine a_iload hX dX8_again_90 rfl ?_
        refine a_iload_n hX dX8_again_92 rfl ?_
        refine a_icmp_eq 97 hX dX8_again_93 (by decide) (fun c_93 => ?_) (fun c_93 => ?_)
        · have hPe : Pe = P := (nI_eq (by omega) (by omega)).mp c_93
          subst hPe
          refine a_iload hX dX8_again_97 rfl ?_
          refine a_tableIn (off := 224) 323 hX dX8_again_99 (by decide) (by decide) (by decide) (by decide) ?_
          refine a_aload_n hX dX8_again_323 rfl ?_
          refine gf_X8_35 rfl hX dX8_again_324 ?_
          refine a_iload hX dX8_again_327 rfl ?_
          refine a_iload hX dX8_again_329 rfl ?_
          refine a_iast (b) hX rfl rfl (show _ < 12 by omega) dX8_again_331 ?_
          refine a_aload_n hX dX8_again_332 rfl ?_
          refine gf_X8_38 rfl hX dX8_again_333 ?_
          refine a_iload hX dX8_again_336 rfl ?_
          refine a_iload hX dX8_again_338 rfl ?_
          refine a_iast (b) hX rfl rfl (show _ < 12 by omega) dX8_again_340 ?_
          refine a_goto 398 hX dX8_again_341 (by decide) ?_
          refine a_vret hX hR dX8_again_398 ⟨Nat.le_refl _, Nat.le_refl _⟩ ?_
          refine h _ ((FrS.rf.set (by decide) (by decide)).set (by decide) (by decide)) ?_
          rw [rpl_succ]
          refine (MP_pl hM hP e2 (by rw [e1]; decide) (by rw [e1]; decide) (by rw [e1]; decide) (by rw [e1]; decide) (by rw [e1]; decide) (?_) (fun z h1 h2 => by repeat (rw [wset_ne _ _ _ _ (by omega)])) (by repeat (rw [wset_ne _ _ _ _ (by decide)])))
          rw [stP_9 e1, hb9]
          exact hM.1.c9
        · refine a_vret hX hR dX8_again_96 ⟨Nat.le_refl _, Nat.le_refl _⟩ ?_
          exact h w FrS.rf (by rw [rpl_succ]; exact MP_ot hM (by rw [e2, ix_nI (by omega)]; intro z; exact c_93 (by rw [z])) (by rw [e1]; decide) (by rw [e1]; decide) (by rw [e1]; decide) (by rw [e1]; decide))
      · exact absurd (by decide) c_68
  · rw [e1, e2, e3]; have hb9 : ix (gL g i 3) = b := by rw [e3]; exact ix_nI (by omega)
    refine a_iload hX dX8_again_58 rfl ?_
    refine a_iconst (5) hX dX8_again_60 (by decide) ?_
    refine a_icmp_lt 90 hX dX8_again_61 (by decide) (fun c_61 => ?_) (fun c_61 => ?_)
    · exact absurd c_61 (by decide)
    · refine a_iload hX dX8_again_64 rfl ?_
      refine a_bipush (8) hX dX8_again_66 (by decide) ?_
      refine a_icmp_gt 90 hX dX8_again_68 (by decide) (fun c_68 => ?_) (fun c_68 => ?_)
      · refine a_iload hX dX8_again_90 rfl ?_
        refine a_iload_n hX dX8_again_92 rfl ?_
        refine a_icmp_eq 97 hX dX8_again_93 (by decide) (fun c_93 => ?_) (fun c_93 => ?_)
        · have hPe : Pe = P := (nI_eq (by omega) (by omega)).mp c_93
          subst hPe
          refine a_iload hX dX8_again_97 rfl ?_
          refine a_tableIn (off := 245) 344 hX dX8_again_99 (by decide) (by decide) (by decide) (by decide) ?_
          refine a_aload_n hX dX8_again_344 rfl ?_
          refine gf_X8_41 rfl hX dX8_again_345 ?_
          refine a_iload hX dX8_again_348 rfl ?_
          refine a_dup2 hX dX8_again_350 rfl rfl ?_
          refine a_iald (b) hX rfl rfl (show _ < 12 by omega) dX8_again_351 ?_
          refine a_iload hX dX8_again_352 rfl ?_
          refine a_iadd hX dX8_again_354 ?_
          refine a_iast (b) hX rfl rfl (show _ < 12 by omega) dX8_again_355 ?_
          refine a_goto 398 hX dX8_again_356 (by decide) ?_
          refine a_vret hX hR dX8_again_398 ⟨Nat.le_refl _, Nat.le_refl _⟩ ?_
          refine h _ (FrS.rf.set (by decide) (by decide)) ?_
          rw [rpl_succ]
          refine (MP_pl hM hP e2 (by rw [e1]; decide) (by rw [e1]; decide) (by rw [e1]; decide) (by rw [e1]; decide) (by rw [e1]; decide) (?_) (fun z h1 h2 => by repeat (rw [wset_ne _ _ _ _ (by omega)])) (by repeat (rw [wset_ne _ _ _ _ (by decide)])))
          rw [stP_10 e1, hb9]
          exact hM.1.c10 hb
        · refine a_vret hX hR dX8_again_96 ⟨Nat.le_refl _, Nat.le_refl _⟩ ?_
          exact h w FrS.rf (by rw [rpl_succ]; exact MP_ot hM (by rw [e2, ix_nI (by omega)]; intro z; exact c_93 (by rw [z])) (by rw [e1]; decide) (by rw [e1]; decide) (by rw [e1]; decide) (by rw [e1]; decide))
      · exact absurd (by decide) c_68
  · rw [e1, e2, e3]; have hb9 : ix (gL g i 3) = b := by rw [e3]; exact ix_nI (by omega)
    refine a_iload hX dX8_again_58 rfl ?_
    refine a_iconst (5) hX dX8_again_60 (by decide) ?_
    refine a_icmp_lt 90 hX dX8_again_61 (by decide) (fun c_61 => ?_) (fun c_61 => ?_)
    · exact absurd c_61 (by decide)
    · refine a_iload hX dX8_again_64 rfl ?_
      refine a_bipush (8) hX dX8_again_66 (by decide) ?_
      refine a_icmp_gt 90 hX dX8_again_68 (by decide) (fun c_68 => ?_) (fun c_68 => ?_)
      · refine a_iload hX dX8_again_90 rfl ?_
        refine a_iload_n hX dX8_again_92 rfl ?_
        refine a_icmp_eq 97 hX dX8_again_93 (by decide) (fun c_93 => ?_) (fun c_93 => ?_)
        · have hPe : Pe = P := (nI_eq (by omega) (by omega)).mp c_93
          subst hPe
          refine a_iload hX dX8_again_97 rfl ?_
          refine a_tableOut 368 hX dX8_again_99 (by decide) (by decide) ?_
          refine a_aload_n hX dX8_again_368 rfl ?_
          refine gf_X8_20 rfl hX dX8_again_369 ?_
          refine a_iload hX dX8_again_372 rfl ?_
          refine a_iconst (2) hX dX8_again_374 (by decide) ?_
          refine a_iast (b) hX rfl rfl (show _ < 12 by omega) dX8_again_375 ?_
          refine a_aload_n hX dX8_again_376 rfl ?_
          refine gf_X8_23 rfl hX dX8_again_377 ?_
          refine a_iload hX dX8_again_380 rfl ?_
          refine a_iload hX dX8_again_382 rfl ?_
          refine a_iast (b) hX rfl rfl (show _ < 12 by omega) dX8_again_384 ?_
          refine a_aload_n hX dX8_again_385 rfl ?_
          refine gf_X8_29 rfl hX dX8_again_386 ?_
          refine a_iload hX dX8_again_389 rfl ?_
          refine a_aload_n hX dX8_again_391 rfl ?_
          refine gf_X8_17 rfl hX dX8_again_392 ?_
          refine a_iload_n hX dX8_again_395 rfl ?_
          refine a_iald i hX rfl rfl (show i < 400 by omega) dX8_again_396 ?_
          rw [show (wset (wset w 224 b 2) 225 b (gL g i 4)).1 223 i = gL g i 8 from by repeat (rw [wset_ne _ _ _ _ (by decide)]); exact hD.2.2.1 i hi e1]
          refine a_iast (b) hX rfl rfl (show _ < 12 by omega) dX8_again_397 ?_
          refine a_vret hX hR dX8_again_398 ⟨Nat.le_refl _, Nat.le_refl _⟩ ?_
          refine h _ (((FrS.rf.set (by decide) (by decide)).set (by decide) (by decide)).set (by decide) (by decide)) ?_
          rw [rpl_succ]
          refine (MP_pl hM hP e2 (by rw [e1]; decide) (by rw [e1]; decide) (by rw [e1]; decide) (by rw [e1]; decide) (by rw [e1]; decide) (?_) (fun z h1 h2 => by repeat (rw [wset_ne _ _ _ _ (by omega)])) (by repeat (rw [wset_ne _ _ _ _ (by decide)])))
          rw [stP_12 e1, hb9]
          exact hM.1.c1
        · refine a_vret hX hR dX8_again_96 ⟨Nat.le_refl _, Nat.le_refl _⟩ ?_
          exact h w FrS.rf (by rw [rpl_succ]; exact MP_ot hM (by rw [e2, ix_nI (by omega)]; intro z; exact c_93 (by rw [z])) (by rw [e1]; decide) (by rw [e1]; decide) (by rw [e1]; decide) (by rw [e1]; decide))
      · exact absurd (by decide) c_68
  · rw [e1, e2, e3, e4]; have hb9 : ix (gL g i 3) = b := by rw [e3]; exact ix_nI (by omega)
    refine a_iload hX dX8_again_58 rfl ?_
    refine a_iconst (5) hX dX8_again_60 (by decide) ?_
    refine a_icmp_lt 90 hX dX8_again_61 (by decide) (fun c_61 => ?_) (fun c_61 => ?_)
    · refine a_iload hX dX8_again_90 rfl ?_
      refine a_iload_n hX dX8_again_92 rfl ?_
      refine a_icmp_eq 97 hX dX8_again_93 (by decide) (fun c_93 => ?_) (fun c_93 => ?_)
      · have hPe : Pe = P := (nI_eq (by omega) (by omega)).mp c_93
        subst hPe
        refine a_iload hX dX8_again_97 rfl ?_
        refine a_tableIn (off := 203) 302 hX dX8_again_99 (by decide) (by decide) (by decide) (by decide) ?_
        refine a_aload_n hX dX8_again_302 rfl ?_
        refine gf_X8_20 rfl hX dX8_again_303 ?_
        refine a_iload hX dX8_again_306 rfl ?_
        refine a_bipush (8) hX dX8_again_308 (by decide) ?_
        refine a_iast (b) hX rfl rfl (show _ < 12 by omega) dX8_again_310 ?_
        refine a_aload_n hX dX8_again_311 rfl ?_
        refine gf_X8_44 rfl hX dX8_again_312 ?_
        refine a_iload hX dX8_again_315 rfl ?_
        refine a_iload hX dX8_again_317 rfl ?_
        refine a_iast (z) hX rfl rfl (show _ < 12 by omega) dX8_again_319 ?_
        refine a_goto 398 hX dX8_again_320 (by decide) ?_
        refine a_vret hX hR dX8_again_398 ⟨Nat.le_refl _, Nat.le_refl _⟩ ?_
        refine h _ ((FrS.rf.set (by decide) (by decide)).set (by decide) (by decide)) ?_
        rw [rpl_succ]
        refine (MP_pl hM hP e2 (by rw [e1]; decide) (by rw [e1]; decide) (by rw [e1]; decide) (by rw [e1]; decide) (by rw [e1]; decide) (?_) (fun z h1 h2 => by repeat (rw [wset_ne _ _ _ _ (by omega)])) (by repeat (rw [wset_ne _ _ _ _ (by decide)])))
        rw [stP_4 e1, hb9, show ix (gL g i 4) = z by rw [e4]; exact ix_nI (by omega), e3]
        exact hM.1.c4
      · refine a_vret hX hR dX8_again_96 ⟨Nat.le_refl _, Nat.le_refl _⟩ ?_
        exact h w FrS.rf (by rw [rpl_succ]; exact MP_ot hM (by rw [e2, ix_nI (by omega)]; intro z; exact c_93 (by rw [z])) (by rw [e1]; decide) (by rw [e1]; decide) (by rw [e1]; decide) (by rw [e1]; decide))
    · exact absurd (by decide) c_61
  · rw [e1, e2, e3]
    refine a_iload hX dX8_again_58 rfl ?_
    refine a_iconst (5) hX dX8_again_60 (by decide) ?_
    refine a_icmp_lt 90 hX dX8_again_61 (by decide) (fun c_61 => ?_) (fun c_61 => ?_)
    · exact absurd c_61 (by decide)
    · refine a_iload hX dX8_again_64 rfl ?_
      refine a_bipush (8) hX dX8_again_66 (by decide) ?_
      refine a_icmp_gt 90 hX dX8_again_68 (by decide) (fun c_68 => ?_) (fun c_68 => ?_)
      · exact absurd c_68 (by decide)
      · refine a_aload_n hX dX8_again_71 rfl ?_
        refine a_iload hX dX8_again_72 rfl ?_
        refine a_bipush (120) hX dX8_again_74 (by decide) ?_
        refine a_iload hX dX8_again_76 rfl ?_
        refine a_imul hX dX8_again_78 ?_
        refine a_iload hX dX8_again_79 rfl ?_
        refine a_iadd hX dX8_again_81 ?_
        rw [n120]
        refine a_iload hX dX8_again_82 rfl ?_
        refine a_iload hX dX8_again_84 rfl ?_
        refine a_callV [_, _, _, _] hX c_X8_months mi_X8_months mv_X8_months se_X8_months (klt rfl (by decide)) (adr_lt (kd_lt rfl (by decide))) (cell_8 rfl) rfl li_X8_113 (by decide) rfl rfl (Nat.le_of_ble_eq_true rfl) (fun q => q) dX8_again_86 ⟨_, _, _, _, rfl, (by omega), Or.inl ⟨rfl, ?_⟩⟩
        intro w86 hf86 h3 h4 h5 h6 h7
        refine a_vret hX hR dX8_again_89 ⟨Nat.le_refl _, Nat.le_refl _⟩ ?_
        exact h w86 (FrS.fr hf86 (fun z hz => by omega)) (by rw [rpl_succ]; exact MP_mo hM (Or.inl e1) (mmc5 hM.2.1 hPe hMM e1 e2 e3 h3 h4 h5 h6 h7) (fun z a b => hf86.2 z (by omega)))
  · rw [e1, e2, e3]
    refine a_iload hX dX8_again_58 rfl ?_
    refine a_iconst (5) hX dX8_again_60 (by decide) ?_
    refine a_icmp_lt 90 hX dX8_again_61 (by decide) (fun c_61 => ?_) (fun c_61 => ?_)
    · exact absurd c_61 (by decide)
    · refine a_iload hX dX8_again_64 rfl ?_
      refine a_bipush (8) hX dX8_again_66 (by decide) ?_
      refine a_icmp_gt 90 hX dX8_again_68 (by decide) (fun c_68 => ?_) (fun c_68 => ?_)
      · exact absurd c_68 (by decide)
      · refine a_aload_n hX dX8_again_71 rfl ?_
        refine a_iload hX dX8_again_72 rfl ?_
        refine a_bipush (120) hX dX8_again_74 (by decide) ?_
        refine a_iload hX dX8_again_76 rfl ?_
        refine a_imul hX dX8_again_78 ?_
        refine a_iload hX dX8_again_79 rfl ?_
        refine a_iadd hX dX8_again_81 ?_
        rw [n120]
        refine a_iload hX dX8_again_82 rfl ?_
        refine a_iload hX dX8_again_84 rfl ?_
        refine a_callV [_, _, _, _] hX c_X8_months mi_X8_months mv_X8_months se_X8_months (klt rfl (by decide)) (adr_lt (kd_lt rfl (by decide))) (cell_8 rfl) rfl li_X8_113 (by decide) rfl rfl (Nat.le_of_ble_eq_true rfl) (fun q => q) dX8_again_86 ⟨_, _, _, _, rfl, (by omega), Or.inr (Or.inl ⟨rfl, q, hq, e4, ?_⟩)⟩
        intro w86 hw86
        refine a_vret hX hR dX8_again_89 ⟨Nat.le_refl _, Nat.le_refl _⟩ ?_
        subst hw86
        exact h _ (FrS.rf.set (by decide) (by decide)) (by rw [rpl_succ]; exact MP_mo hM (Or.inr (Or.inl e1)) (mmc6 hM.2.1 hPe hMM hq e1 e2 e3 e4 rfl) (fun z a b => wset_ne _ _ _ _ (by omega)))
  · rw [e1, e2, e3]
    refine a_iload hX dX8_again_58 rfl ?_
    refine a_iconst (5) hX dX8_again_60 (by decide) ?_
    refine a_icmp_lt 90 hX dX8_again_61 (by decide) (fun c_61 => ?_) (fun c_61 => ?_)
    · exact absurd c_61 (by decide)
    · refine a_iload hX dX8_again_64 rfl ?_
      refine a_bipush (8) hX dX8_again_66 (by decide) ?_
      refine a_icmp_gt 90 hX dX8_again_68 (by decide) (fun c_68 => ?_) (fun c_68 => ?_)
      · exact absurd c_68 (by decide)
      · refine a_aload_n hX dX8_again_71 rfl ?_
        refine a_iload hX dX8_again_72 rfl ?_
        refine a_bipush (120) hX dX8_again_74 (by decide) ?_
        refine a_iload hX dX8_again_76 rfl ?_
        refine a_imul hX dX8_again_78 ?_
        refine a_iload hX dX8_again_79 rfl ?_
        refine a_iadd hX dX8_again_81 ?_
        rw [n120]
        refine a_iload hX dX8_again_82 rfl ?_
        refine a_iload hX dX8_again_84 rfl ?_
        refine a_callV [_, _, _, _] hX c_X8_months mi_X8_months mv_X8_months se_X8_months (klt rfl (by decide)) (adr_lt (kd_lt rfl (by decide))) (cell_8 rfl) rfl li_X8_113 (by decide) rfl rfl (Nat.le_of_ble_eq_true rfl) (fun q => q) dX8_again_86 ⟨_, _, _, _, rfl, (by omega), Or.inr (Or.inr (Or.inl ⟨rfl, ?_⟩))⟩
        intro w86 hw86
        refine a_vret hX hR dX8_again_89 ⟨Nat.le_refl _, Nat.le_refl _⟩ ?_
        subst hw86
        exact h _ (FrS.rf.set (by decide) (by decide)) (by rw [rpl_succ]; exact MP_mo hM (Or.inr (Or.inr (Or.inl e1))) (mmc7 hM.2.1 hPe hMM e1 e2 e3 rfl) (fun z a b => wset_ne _ _ _ _ (by omega)))
  · have hrow : (rpl (gL g) i).2.1 Pe M 0 = 1 ∨ (rpl (gL g) i).2.1 Pe M 0 = 2 := by
      have h9 := hvm.2.2 e1
      rwa [e2, e3, ix_nI (by omega), ix_nI (by omega)] at h9
    have hb01 : w.1 234 (120 * Pe + M) = 0 ∨ w.1 234 (120 * Pe + M) = 1 := by
      have h9 := ((hM.2.1 Pe hPe M hMM).2 hrow).1
      rw [h9]
      split
      · exact Or.inr rfl
      · exact Or.inl rfl
    rw [e1, e2, e3]
    refine a_iload hX dX8_again_58 rfl ?_
    refine a_iconst (5) hX dX8_again_60 (by decide) ?_
    refine a_icmp_lt 90 hX dX8_again_61 (by decide) (fun c_61 => ?_) (fun c_61 => ?_)
    · exact absurd c_61 (by decide)
    · refine a_iload hX dX8_again_64 rfl ?_
      refine a_bipush (8) hX dX8_again_66 (by decide) ?_
      refine a_icmp_gt 90 hX dX8_again_68 (by decide) (fun c_68 => ?_) (fun c_68 => ?_)
      · exact absurd c_68 (by decide)
      · refine a_aload_n hX dX8_again_71 rfl ?_
        refine a_iload hX dX8_again_72 rfl ?_
        refine a_bipush (120) hX dX8_again_74 (by decide) ?_
        refine a_iload hX dX8_again_76 rfl ?_
        refine a_imul hX dX8_again_78 ?_
        refine a_iload hX dX8_again_79 rfl ?_
        refine a_iadd hX dX8_again_81 ?_
        rw [n120]
        refine a_iload hX dX8_again_82 rfl ?_
        refine a_iload hX dX8_again_84 rfl ?_
        refine a_callV [_, _, _, _] hX c_X8_months mi_X8_months mv_X8_months se_X8_months (klt rfl (by decide)) (adr_lt (kd_lt rfl (by decide))) (cell_8 rfl) rfl li_X8_113 (by decide) rfl rfl (Nat.le_of_ble_eq_true rfl) (fun q => q) dX8_again_86 ⟨_, _, _, _, rfl, (by omega), Or.inr (Or.inr (Or.inr ⟨rfl, hb01, Q, T, hQ, hT, e4, e5, ?_⟩))⟩
        intro w86 hf86 h3 h4 h5 h6 h7
        refine a_vret hX hR dX8_again_89 ⟨Nat.le_refl _, Nat.le_refl _⟩ ?_
        exact h w86 (FrS.fr hf86 (fun z hz => by omega)) (by rw [rpl_succ]; exact MP_mo hM (Or.inr (Or.inr (Or.inr e1))) (mmc8 hM.2.1 hPe hMM hQ hT e1 e2 e3 e4 e5 hrow h3 h4 h5 h6 h7) (fun z a b => hf86.2 z (by omega)))
  · rw [e1, e2]
    refine a_iload hX dX8_again_58 rfl ?_
    refine a_iconst (5) hX dX8_again_60 (by decide) ?_
    refine a_icmp_lt 90 hX dX8_again_61 (by decide) (fun c_61 => ?_) (fun c_61 => ?_)
    · exact absurd c_61 (by decide)
    · refine a_iload hX dX8_again_64 rfl ?_
      refine a_bipush (8) hX dX8_again_66 (by decide) ?_
      refine a_icmp_gt 90 hX dX8_again_68 (by decide) (fun c_68 => ?_) (fun c_68 => ?_)
      · refine a_iload hX dX8_again_90 rfl ?_
        refine a_iload_n hX dX8_again_92 rfl ?_
        refine a_icmp_eq 97 hX dX8_again_93 (by decide) (fun c_93 => ?_) (fun c_93 => ?_)
        · have hPe : Pe = P := (nI_eq (by omega) (by omega)).mp c_93
          subst hPe
          refine a_iload hX dX8_again_97 rfl ?_
          refine a_tableIn (off := 260) 359 hX dX8_again_99 (by decide) (by decide) (by decide) (by decide) ?_
          refine a_aload_n hX dX8_again_359 rfl ?_
          refine a_iload hX dX8_again_360 rfl ?_
          refine pf_X8_100 rfl hX dX8_again_362 ?_
          refine a_goto 398 hX dX8_again_365 (by decide) ?_
          refine a_vret hX hR dX8_again_398 ⟨Nat.le_refl _, Nat.le_refl _⟩ ?_
          refine h _ (FrS.rf.f15 (Or.inl rfl)) ?_
          rw [rpl_succ]
          exact MP_gr hM hP e1 e2
        · refine a_vret hX hR dX8_again_96 ⟨Nat.le_refl _, Nat.le_refl _⟩ ?_
          exact h w FrS.rf (by rw [rpl_succ]; exact MP_ot hM (by rw [e2, ix_nI (by omega)]; intro z; exact c_93 (by rw [z])) (by rw [e1]; decide) (by rw [e1]; decide) (by rw [e1]; decide) (by rw [e1]; decide))
      · exact absurd (by decide) c_68
abbrev T_X8_tellAgain : Tr := fun lay av w Po => ∃ (g : Sg) (P : Nat) (d : Nat), av = [.ref (lay 221), .int (nI P), .int (nI d)] ∧ (MD g w) ∧ (okS g) ∧ (P < 6) ∧ (d < 3600) ∧ ∀ w' : St, FrS w w' → MP w' (rpl (gL g) (kn (gL g) d (gn g))) P → Po none w'
set_option maxRecDepth 100000 in
set_option maxHeartbeats 4000000 in
theorem c_X8_tellAgain : Ct yX8_tellAgain cX8_tellAgain 4 none 2 0 0 T_X8_tellAgain := by
  refine Ct.mk (by decide +kernel) ?_
  intro X av w Po hX hR hT
  obtain ⟨g, P, d, rfl, hD, ho, hP, hd, h⟩ := hT
  refine ⟨rfl, ?_⟩
  show A X 0 0 0 [some (.ref (xlay X 221)), some (.int (nI P)), some (.int (nI d)), none] [] w
  have hn4 := ho.1.1
  have hkn := kn_le (gL g) d (gn g)
  refine a_aload_n hX dX8_tellAgain_0 rfl ?_
  refine a_callV [] hX c_X8_begin mi_X8_begin mv_X8_begin se_X8_begin (klt rfl (by decide)) (adr_lt (kd_lt rfl (by decide))) (cell_8 rfl) rfl li_X8_103 (by decide) rfl rfl (Nat.le_of_ble_eq_true rfl) (fun q => q) dX8_tellAgain_1 ⟨rfl, ?_⟩
  intro w1 h1 hm1
  refine a_iconst (0) hX dX8_tellAgain_4 (by decide) ?_
  refine a_istore_n (ls' := [_, _, _, _]) hX dX8_tellAgain_5 (Nat.le_of_ble_eq_true rfl) rfl ?_
  have L6 : ∀ (fu : Nat) (i : Nat) (w2 : St), gn g - i < fu → (i ≤ gn g) → (FrS w w2) → (MP w2 (rpl (gL g) (min i (kn (gL g) d (gn g)))) P) → A X 0 0 6 [some (.ref (xlay X 221)), some (.int (nI P)), some (.int (nI d)), some (.int (nI i))] [] w2 := by
    intro fu
    induction fu with
    | zero => intro i w2 hmu; exact absurd hmu (Nat.not_lt_zero _)
    | succ fu ih =>
      intro i w2 hmu hi hf2 hm2
      refine a_iload_n hX dX8_tellAgain_6 rfl ?_
      refine a_aload_n hX dX8_tellAgain_7 rfl ?_
      refine gf_X8_106 rfl hX dX8_tellAgain_8 ?_
      rw [(hD.s hf2).1.2.2.2]
      refine a_icmp_ge 39 hX dX8_tellAgain_11 (by decide) (fun c_11 => ?_) (fun c_11 => ?_)
      · refine a_vret hX hR dX8_tellAgain_39 ⟨Nat.le_refl _, Nat.le_refl _⟩ ?_
        have hil : i = gn g := by
          rcases Nat.lt_or_ge i (gn g) with q | q
          · exact absurd (nI_lt q (by omega)) (by first | exact Int32.not_lt.mpr c_11 | exact c_11)
          · omega
        subst hil
        rw [show min (gn g) (kn (gL g) d (gn g)) = kn (gL g) d (gn g) by omega] at hm2
        exact h w2 hf2 hm2
      · have hil : i < gn g := Nat.not_le.mp (fun z => absurd (nI_le z (by omega)) (by first | exact c_11 | exact Int32.not_le.mpr c_11))
        have hks := kn_spec ho d hil
        obtain ⟨x, hx, ex⟩ := (ho.2.2.2.1 i hil).1
        have ht3 := ho.1.2.2
        have e0 : w2.1 222 (8 * i) = nI x := by
          have h9 := (hD.s hf2).2.1 i hil 0 (by decide)
          rw [Nat.add_zero, ex] at h9
          exact h9
        have hix : ix (gL g i 0) = x := by rw [ex]; exact ix_nI (by omega)
        rw [hix] at hks
        refine a_aload_n hX dX8_tellAgain_14 rfl ?_
        refine gf_X8_13 rfl hX dX8_tellAgain_15 ?_
        refine a_bipush (8) hX dX8_tellAgain_18 (by decide) ?_
        refine a_iload_n hX dX8_tellAgain_20 rfl ?_
        refine a_imul hX dX8_tellAgain_21 ?_
        rw [show (8 : Int32) * nI i = nI (8 * i) from pk_mul 8 i]
        refine a_iald ((8 * i)) hX rfl rfl (show _ < 3200 by omega) dX8_tellAgain_22 ?_
        refine a_iload_n hX dX8_tellAgain_23 rfl ?_
        rw [e0]
        refine a_icmp_gt 33 hX dX8_tellAgain_24 (by decide) (fun c_24 => ?_) (fun c_24 => ?_)
        · refine a_iinc (ls' := [_, _, _, _]) (nI (i + 1)) hX dX8_tellAgain_33 rfl (nI_i1 i) rfl ?_
          refine a_goto 6 hX dX8_tellAgain_36 (by decide) ?_
          have hxd : ¬ x ≤ d := fun z => absurd (nI_le z (by omega)) (by first | exact c_24 | exact Int32.not_le.mpr c_24)
          refine ih (i + 1) w2 (by omega) (by omega) hf2 ?_
          have hge : ¬ i < kn (gL g) d (gn g) := fun z => hxd (hks.mpr z)
          rw [show min (i + 1) (kn (gL g) d (gn g)) = min i (kn (gL g) d (gn g)) by omega]
          exact hm2
        · refine a_aload_n hX dX8_tellAgain_27 rfl ?_
          refine a_iload_n hX dX8_tellAgain_28 rfl ?_
          refine a_iload_n hX dX8_tellAgain_29 rfl ?_
          have hxd : x ≤ d := (nI_leI (by omega) (by omega)).mp (le_nlt c_24)
          have hlt := hks.mp hxd
          rw [show min i (kn (gL g) d (gn g)) = i by omega] at hm2
          refine a_callV [_, _] hX c_X8_again mi_X8_again mv_X8_again se_X8_again (klt rfl (by decide)) (adr_lt (kd_lt rfl (by decide))) (cell_8 rfl) rfl li_X8_109 (by decide) rfl rfl (Nat.le_of_ble_eq_true rfl) (fun q => q) dX8_tellAgain_30 ⟨_, _, _, rfl, (hD.s hf2), ho, hil, hP, hm2, ?_⟩
          intro w30 h30 hm30
          refine a_iinc (ls' := [_, _, _, _]) (nI (i + 1)) hX dX8_tellAgain_33 rfl (nI_i1 i) rfl ?_
          refine a_goto 6 hX dX8_tellAgain_36 (by decide) ?_
          refine ih (i + 1) w30 (by omega) (by omega) (hf2.tr h30) ?_
          rw [show min (i + 1) (kn (gL g) d (gn g)) = i + 1 by omega]
          exact hm30
  exact L6 (gn g + 1) 0 w1 (by omega) (by omega) h1 (by rw [Nat.zero_min]; exact hm1 P)
