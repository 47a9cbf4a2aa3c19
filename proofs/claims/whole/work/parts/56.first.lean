/-! the first world -/
theorem arrV_cg {cA : ClassId} {N : Nat} {f g : Nat → Value} (h : ∀ j, j < N → f j = g j) : arrV cA N f = arrV cA N g := by
  unfold arrV
  congr 2
  funext j
  exact h _ j.isLt
def w00 : St := (ini, 0, 0, fun _ => 0)
theorem at_ce {D : va_G} {ac : Nat → ClassId} {lay : Nat → Nat} {a r : Nat} {H : Heap} (h : va_at D vwCl (a, ceB ac lay r) H) : va_at D vwCl (a, cell ac lay w00 r) H := by
  show va_at D vwCl (a, cellF ac lay (0, 0, fun _ => 0) (ini r) r) H
  unfold ceB at h
  split at h
  · next hk =>
    have e : cellF ac lay (0, 0, fun _ => 0) (ini r) r = .inl (ac 2, 400, .inr (.inr (.inr (.inr (fun _ => none))))) := by
      simp [cellF, hk]
    rw [e]
    exact h
  · split at h
    · next hk =>
      have e : cellF ac lay (0, 0, fun _ => 0) (ini r) r = .inl (ac 3, 6, .inr (.inr (.inr (.inr (fun j => some (lay (r + 1 + 17 * j))))))) := by
        simp [cellF, hk]
      rw [e]
      have h2 : H[a]? = some (vp_cell _ _) := h
      show H[a]? = some (vp_cell _ _)
      rw [h2, vp_cell_q, vp_cell_q]
      exact congrArg some (arrV_cg (fun j hj => by rw [if_pos hj]))
    · split at h
      · next hk =>
        have e : cellF ac lay (0, 0, fun _ => 0) (ini r) r = .inl (ac 4, 12, .inr (.inr (.inr (.inr (fun j => some (lay (r + 4 + j))))))) := by
          simp [cellF, hk]
        rw [e]
        have h2 : H[a]? = some (vp_cell _ _) := h
        show H[a]? = some (vp_cell _ _)
        rw [h2, vp_cell_q, vp_cell_q]
        exact congrArg some (arrV_cg (fun j hj => by rw [if_pos hj]))
      · exact h
theorem Wb.done {D : va_G} {ac : Nat → ClassId} {bs : Nat} {b : Bt} {H : Heap} (h : Wb D bs b H) (hb : b.1 = 248) (hd : ∀ r, r < 248 → Dn ac b r) : Wd D ac bs b.2.2 w00 H := by
  have hg : ∀ (k : Nat) (q : Nat × va_E), (wl ac b.2.2 w00)[k]? = some q → k < 248 ∧ q = (b.2.2 k, cell ac b.2.2 w00 k) := by
    intro k q hq
    have hk : k < 248 := by
      have := (List.getElem?_eq_some_iff.mp hq).1
      simpa [wl, w00] using this
    rw [wl_get (w := w00) (show k < 248 + 0 from hk), adr_lt hk] at hq
    exact ⟨hk, (Option.some.inj hq).symm⟩
  refine ⟨fun k q hq => ?_, fun i j p q hp hq hpq => ?_, fun k q hq => ?_⟩
  · obtain ⟨hk, rfl⟩ := hg k q hq
    have h1 := h.1 k _ (wlB_get (by omega))
    rw [hd k hk _ (Ag.rf b)] at h1
    exact at_ce h1
  · obtain ⟨hi, rfl⟩ := hg i p hp
    obtain ⟨hj, rfl⟩ := hg j q hq
    exact h.2.1 i j _ _ (wlB_get (by omega)) (wlB_get (by omega)) hpq
  · obtain ⟨hk, rfl⟩ := hg k q hq
    exact h.2.2 k (b.2.2 k, b.2.1 k) (wlB_get (b := b) (r := k) (by omega))
theorem Dn.kp {ac : Nat → ClassId} {b b2 : Bt} {r : Nat} (h : Dn ac b r) (hk : ∀ q, Kp q b b2) (hr : r < b.1) : Dn ac b2 r := by
  intro lay ha
  rw [(hk (r + 1)).2.2 r hr (by omega)]
  exact h lay (ha.kp (hk 0))
theorem ini_FileS {q P : Nat} (hq : kd q = 1) : FileS w00 q RS0 P := by
  refine ⟨fun i hi k hk => ?_, fun M hM => ⟨?_, ?_, ?_⟩, ?_⟩
  · show ini (q + 1 + 4 + i) k = if k = 5 then -1 else 0
    unfold ini
    rw [K1_p hq hi]
    by_cases h5 : k = 5
    · rw [if_pos h5, if_pos (by omega)]
    · rw [if_neg h5, if_neg (by omega)]
  · exact ini_10 (Or.inl (K1_2 hq)) M
  · exact ini_10 (Or.inl (K1_3 hq)) M
  · show BW (ini (q + 4) M) _
    rw [ini_10 (Or.inl (K1_4 hq)) M]
    exact BW.zero (fun k hk => by simp [RS0])
  · show ini q 4 = -1
    unfold ini
    rw [hq]
    rfl
theorem ini_RegS {r : Nat} (hr : kd r = 4) : RegS w00 r RS0 := fun P hP => ini_FileS (K4_f hr hP)
theorem CI_g0 : CI g0 w00 := by
  refine ⟨⟨⟨by decide +kernel, by decide +kernel, by decide +kernel, by decide +kernel⟩, rfl, Nat.le_refl _, fun i hi => absurd hi (Nat.not_lt_zero i), ⟨ini_RegS rfl, by decide +kernel⟩, ⟨0, Nat.le_refl _, by decide +kernel, ini_RegS rfl⟩, by decide +kernel, fun j hj => absurd hj (Nat.not_lt_zero j)⟩, fun _ => rfl⟩
theorem MD_g0 : MD g0 w00 := ⟨⟨by decide +kernel, by decide +kernel, by decide +kernel, by decide +kernel⟩, fun i hi => absurd hi (Nat.not_lt_zero i), fun i hi => absurd hi (Nat.not_lt_zero i), by decide +kernel, fun j hj => absurd hj (Nat.not_lt_zero j)⟩
theorem ins_X1 : Cond.instantiable RX1 5 ∈ wU := mw (i := 75) (by decide +kernel) (by decide +kernel)
theorem ins_X2 : Cond.instantiable RX2 9 ∈ wU := mw (i := 82) (by decide +kernel) (by decide +kernel)
theorem ins_X3 : Cond.instantiable RX3 7 ∈ wU := mw (i := 164) (by decide +kernel) (by decide +kernel)
theorem ins_X4 : Cond.instantiable RX4 2 ∈ wU := mw (i := 68) (by decide +kernel) (by decide +kernel)
theorem ins_X5 : Cond.instantiable RX5 4 ∈ wU := mw (i := 217) (by decide +kernel) (by decide +kernel)
theorem ins_X6 : Cond.instantiable RX6 6 ∈ wU := mw (i := 170) (by decide +kernel) (by decide +kernel)
theorem ins_X7 : Cond.instantiable RX7 9 ∈ wU := mw (i := 58) (by decide +kernel) (by decide +kernel)
theorem ins_X8 : Cond.instantiable RX8 33 ∈ wU := mw (i := 797) (by decide +kernel) (by decide +kernel)
theorem lw_wU {A : Array Value} {s : State} (hts : ∀ w ∈ lw_tbl, w.before A s = true) : ∀ w ∈ wU, w.before A s = true := fun w hw => hts w (List.mem_filter.mp hw).1
theorem lw_NW {A : Array Value} {s : State} (hts : ∀ w ∈ lw_tbl, w.before A s = true) : NW s := by
  intro w hw
  have h1 := (List.mem_filter.mp hw).2
  have h2 := hts w (List.mem_filter.mp hw).1
  cases w <;> first | (exact va_Nw.of rfl h2) | (cases h1)
theorem lw_AO {A : Array Value} {s : State} (hts : ∀ w ∈ lw_tbl, w.before A s = true) : AOs s := ⟨va_AO.of (A := A) (hts _ (List.mem_of_getElem? (i := 66) (by decide +kernel))), va_AO.of (A := A) (hts _ (List.mem_of_getElem? (i := 74) (by decide +kernel))), va_AO.of (A := A) (hts _ (List.mem_of_getElem? (i := 81) (by decide +kernel)))⟩
theorem tO {s : State} {cA kA comp : _} {C : String} (f1 : s.vm.findClass C = some comp) (f2 : s.vm.classes[cA]? = some kA) (f3 : kA.kind = .array comp (.object C)) (f4 : s.vm.findClass ("[" ++ (FieldType.object C).toString) = some cA) : ArrOfT s cA (.object C) ∧ va_RA s cA (.object C) := ⟨fun N z => ⟨fun k h => (by cases h), kA, f2, comp, f3⟩, kA, comp, f2, f3, f1, f4⟩
theorem lw_K {A : Array Value} {s : State} (hts : ∀ w ∈ lw_tbl, w.before A s = true) : ∃ (D : va_G) (ac : Nat → ClassId), va_K D vwCl (tya ac) s := by
  have hu := lw_wU hts
  obtain ⟨c0, i0, h0⟩ := u_known (args := A) (ws := wU) hu inU_X0 (hu _ inst_X0)
  obtain ⟨c1, i1, h1⟩ := u_known (args := A) (ws := wU) hu inU_X1 (hu _ ins_X1)
  obtain ⟨c2, i2, h2⟩ := u_known (args := A) (ws := wU) hu inU_X2 (hu _ ins_X2)
  obtain ⟨c3, i3, h3⟩ := u_known (args := A) (ws := wU) hu inU_X3 (hu _ ins_X3)
  obtain ⟨c4, i4, h4⟩ := u_known (args := A) (ws := wU) hu inU_X4 (hu _ ins_X4)
  obtain ⟨c5, i5, h5⟩ := u_known (args := A) (ws := wU) hu inU_X5 (hu _ ins_X5)
  obtain ⟨c6, i6, h6⟩ := u_known (args := A) (ws := wU) hu inU_X6 (hu _ ins_X6)
  obtain ⟨c7, i7, h7⟩ := u_known (args := A) (ws := wU) hu inU_X7 (hu _ ins_X7)
  obtain ⟨c8, i8, h8⟩ := u_known (args := A) (ws := wU) hu inU_X8 (hu _ ins_X8)
  obtain ⟨a0, ka0, co0, e0, f0, g0⟩ := Cond.arrayClass_spec (hu _ acl_int)
  obtain ⟨a1, ka1, co1, e1, f1, g1⟩ := Cond.arrayClass_spec (hu _ acl_bool)
  obtain ⟨co2, a2, ka2, p2, -, q2, r2, s2⟩ := Cond.arrayOver_spec (n := "TermReckoner$Entry") (hts _ (List.mem_of_getElem? (i := 66) (by decide +kernel)))
  obtain ⟨co3, a3, ka3, p3, -, q3, r3, s3⟩ := Cond.arrayOver_spec (n := "TermReckoner$File") (hts _ (List.mem_of_getElem? (i := 74) (by decide +kernel)))
  obtain ⟨co4, a4, ka4, p4, -, q4, r4, s4⟩ := Cond.arrayOver_spec (n := "TermReckoner$Place") (hts _ (List.mem_of_getElem? (i := 81) (by decide +kernel)))
  refine ⟨(fun c => match c with | 0 => c0 | 1 => c1 | 2 => c2 | 3 => c3 | 4 => c4 | 5 => c5 | 6 => c6 | 7 => c7 | _ => c8, fun c => match c with | 0 => i0 | 1 => i1 | 2 => i2 | 3 => i3 | 4 => i4 | 5 => i5 | 6 => i6 | 7 => i7 | _ => i8), fun c => match c with | 0 => a0 | 1 => a1 | 2 => a2 | 3 => a3 | _ => a4, fun c q hq => ?_, fun k q hq => ?_⟩
  · match c, hq with
    | 0, hq => (cases hq; exact h0)
    | 1, hq => (cases hq; exact h1)
    | 2, hq => (cases hq; exact h2)
    | 3, hq => (cases hq; exact h3)
    | 4, hq => (cases hq; exact h4)
    | 5, hq => (cases hq; exact h5)
    | 6, hq => (cases hq; exact h6)
    | 7, hq => (cases hq; exact h7)
    | 8, hq => (cases hq; exact h8)
    | c + 9, hq => (exact absurd (List.getElem?_eq_some_iff.mp hq).1 (by simp))
  · match k, hq with
    | 0, hq => (cases hq; exact ⟨fun N z => ⟨fun k h => (by cases h), ka0, f0, co0, g0⟩, e0⟩)
    | 1, hq => (cases hq; exact ⟨fun N z => ⟨fun k h => (by cases h), ka1, f1, co1, g1⟩, e1⟩)
    | 2, hq => (cases hq; exact tO p2 q2 r2 s2)
    | 3, hq => (cases hq; exact tO p3 q3 r3 s3)
    | 4, hq => (cases hq; exact tO p4 q4 r4 s4)
    | k + 5, hq => (exact absurd (List.getElem?_eq_some_iff.mp hq).1 (by simp [tya]))
