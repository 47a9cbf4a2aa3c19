/-! every call keeps what the state keeps -/
theorem co_ok {g : Sg} {e : Nat → Int32} (ho : okS g) (h : gn g < 400 → okS (psh g e)) : okS (coS g e).2 := by
  unfold coS
  split
  · exact ho
  · next h4 => exact h (by have := ho.1.1; omega)
theorem kp_person {g : Sg} (ho : okS g) : okS (personS g).2 := by
  unfold personS
  split
  · exact ho
  · next h => exact okS_pers ho h
theorem kp_today {g : Sg} {d : Int32} (ho : okS g) : okS (todayS g d).2 := by
  unfold todayS
  split
  · next h =>
    obtain ⟨j, hj, rfl⟩ := isD_ex h.1
    rw [ix_nI (by omega)]
    refine okS_today ho hj ((nI_leI (by have := ho.1.2.2; omega) (by omega)).mp h.2)
  · exact ho
theorem kp_as {g : Sg} {d : Int32} (ho : okS g) : okS (asS g d).2 := by
  unfold asS
  split
  · next h =>
    refine okS_as ho ?_
    rcases h with h | h
    · exact Or.inl h
    · obtain ⟨j, hj, rfl⟩ := isD_ex h.1
      exact Or.inr ⟨j, (nI_leI (by omega) (by have := ho.1.2.2; omega)).mp h.2, rfl⟩
  · exact ho
theorem kp_letter {g : Sg} {p l : Int32} (ho : okS g) : okS (letterS g p l).2 := by
  unfold letterS
  split
  · exact ho
  · next h => exact co_ok ho (fun h4 => ok_letter ho h4 (Decidable.not_not.mp h))
theorem kp_term {g : Sg} {p l f n : Int32} (ho : okS g) : okS (termS g p l f n).2 := by
  unfold termS
  split
  · exact ho
  · next h =>
    split
    · exact ho
    · next h2 =>
      have h3 := Decidable.not_not.mp h2
      exact co_ok ho (fun h4 => ok_term ho h4 (Decidable.not_not.mp h) h3.1 h3.2 (Or.inl ⟨rfl, rfl⟩))
theorem kp_waits {g : Sg} {p l k f n s : Int32} (ho : okS g) : okS (waitsS g p l k f n s).2 := by
  unfold waitsS
  split
  · exact ho
  · next h =>
    split
    · exact ho
    · next h2 =>
      have h3 := Decidable.not_not.mp h2
      split
      · next hx =>
        have hr := rgN_spec hx
        exact okS_ring ho (ringOf_lt hr).1 (ringOf_lt hr).2
      · next hx => exact co_ok ho (fun h4 => ok_waits ho h4 (Decidable.not_not.mp h) h3.1 h3.2.1 h3.2.2 hx)
theorem kp_stay {g : Sg} {p l k f t s : Int32} (ho : okS g) : okS (stayS g p l k f t s).2 := by
  unfold stayS
  split
  · exact ho
  · next h =>
    split
    · exact ho
    · next h2 =>
      have h3 := Decidable.not_not.mp h2
      exact co_ok ho (fun h4 => ok_stay ho h4 (Decidable.not_not.mp h) h3.1 h3.2.1 h3.2.2.1 h3.2.2.2.1)
theorem kp_quash {g : Sg} {p l o : Int32} (ho : okS g) : okS (quashS g p l o).2 := by
  unfold quashS
  split
  · exact ho
  · next h0 =>
    split
    · exact ho
    · next h =>
      split
      · exact ho
      · next h2 =>
        have h3 := Decidable.not_not.mp h2
        exact co_ok ho (fun h4 => ok_quash ho h4 (Decidable.not_not.mp h) (Decidable.not_not.mp h0) h3.1.1)
theorem kp_month {g : Sg} {p m b n : Int32} (ho : okS g) : okS (monthS g p m b n).2 := by
  unfold monthS
  split
  · exact ho
  · next h =>
    split
    · exact ho
    · next h2 =>
      have h1 := Decidable.not_not.mp h
      exact co_ok ho (fun h4 => ok_month ho h4 h1.1 h1.2 (Decidable.not_not.mp h2))
theorem kp_ite {P : Prop} [Decidable P] {a b : Int32 × Sg} (ha : P → okS a.2) (hb : ¬ P → okS b.2) : okS (if P then a else b).2 := by
  by_cases h : P
  · rw [if_pos h]; exact ha h
  · rw [if_neg h]; exact hb h
theorem kp_held {g : Sg} {p m k v : Int32} (ho : okS g) : okS (heldS g p m k v).2 := by
  unfold heldS
  refine kp_ite (fun _ => ho) (fun h => kp_ite (fun _ => ho) (fun _ => kp_ite (fun _ => ho) (fun h2 => ?_)))
  have h1 := Decidable.not_not.mp h
  have h3 := Decidable.not_not.mp h2
  exact co_ok ho (fun h4 => ok_held ho h4 h1.1 h1.2 h3.2)
theorem kp_tear {g : Sg} {p m : Int32} (ho : okS g) : okS (tearS g p m).2 := by
  unfold tearS
  split
  · exact ho
  · next h =>
    have h1 := Decidable.not_not.mp h
    exact co_ok ho (fun h4 => ok_tear ho h4 h1.1 h1.2)
theorem kp_copy {g : Sg} {p m o t : Int32} (ho : okS g) : okS (copyS g p m o t).2 := by
  unfold copyS
  split
  · exact ho
  · next h =>
    split
    · exact ho
    · next h2 =>
      have h1 := Decidable.not_not.mp h
      exact co_ok ho (fun h4 => ok_copy ho h4 h1.1 h1.2.1 h1.2.2.1 h1.2.2.2 (Decidable.not_not.mp h2))
theorem kp_off {g : Sg} {p l k f : Int32} (ho : okS g) : okS (offS g p l k f).2 := by
  unfold offS
  split
  · exact ho
  · next h =>
    split
    · exact ho
    · next h2 =>
      split
      · exact ho
      · have h1 := Decidable.not_not.mp h
        have h3 := Decidable.not_not.mp h2
        exact co_ok ho (fun h4 => ok_off ho h4 h1.1 h1.2 h3.1 h3.2)
theorem kp_back {g : Sg} {p l d : Int32} (ho : okS g) : okS (backS g p l d).2 := by
  unfold backS
  split
  · exact ho
  · next h =>
    split
    · exact ho
    · split
      · exact ho
      · next h3 =>
        have h1 := Decidable.not_not.mp h
        refine co_ok ho (fun h4 => ?_)
        obtain ⟨P, hP, hP6, rfl⟩ := isP_ex ho h1.1
        obtain ⟨i, hi, rfl⟩ := isL_ex h1.2
        have hix : ix (nI i) = i := ix_nI (by omega)
        have hjx : ix (nI P) = P := ix_nI (by omega)
        obtain ⟨-, -, -, -, -, -, -, -, ⟨gv, hgv, egv⟩, -⟩ := (ho.n.1 P hP6).1 i hi
        have htk := tkS_le (mst := 0) (d := gt g) ho.n hP6 hi
        have hpg : (pl (RSn g) (nI P) (nI i) 8).toInt = gv := by
          unfold pl
          rw [hix, hjx, egv, nI_toInt (by omega)]
        rw [hix, hjx, hpg] at h3
        exact ok_back ho h4 h1.1 h1.2 (by rw [hpg]; omega) (by rw [hpg]; omega)
theorem kp_grant {g : Sg} {p d : Int32} (ho : okS g) : okS (grantS g p d).2 := by
  unfold grantS
  split
  · exact ho
  · next h =>
    split
    · exact ho
    · next h2 =>
      split
      · exact ho
      · split
        · exact ho
        · exact co_ok ho (fun h4 => ok_grant ho h4 (Decidable.not_not.mp h) (Decidable.not_not.mp h2))
theorem kp_recall {g : Sg} {p l d t : Int32} (ho : okS g) : okS (recallS g p l d t).2 := by
  unfold recallS
  split
  · exact ho
  · next h =>
    split
    · exact ho
    · next h2 =>
      split
      · exact ho
      · split
        · exact ho
        · next h3 =>
          have hr := Decidable.not_not.mp h
          have hdt := Decidable.not_not.mp h2
          refine co_ok ho (fun h4 => ?_)
          have hfb := fuD_b (RSn g) (ix p) 0
          obtain ⟨tt, ht1, ht2⟩ : ∃ tt, tt ≤ 1000 ∧ t = nI tt := le_ex (n := 1000) (by decide) ⟨Int32.le_trans (by decide) hdt.2.1, hdt.2.2⟩
          have htx : ix t = tt := by rw [ht2, ix_nI (by omega)]
          have hrb : 1 ≤ rcNd g p t ∧ rcNd g p t ≤ 3600 := by
            have hm : (fuD (RSn g) (ix p) 0 - ix ((RSn g).2.2.2 (ix p))) * tt ≤ 3600 * 1000 := Nat.mul_le_mul (by omega) ht1
            unfold rcNd
            rw [htx]
            omega
          exact ok_term ho h4 hr hdt.1 (n := nI (rcNd g p t)) ⟨nI_le (a := 1) hrb.1 (by omega), nI_le (b := 3600) hrb.2 (by decide)⟩ (Or.inr ⟨rfl, rfl⟩)
theorem kp_take {g : Sg} {t c a b c4 d e f : Int32} (ho : okS g) : okS (takeS g t c a b c4 d e f).2 := by
  have h2 : okS (todayS g t).2 := kp_today ho
  unfold takeS caS
  exact kp_ite (fun _ => ho) (fun _ => kp_ite (fun _ => ho) (fun _ => kp_ite (fun _ => kp_letter h2) (fun _ => kp_ite (fun _ => kp_term h2) (fun _ => kp_ite (fun _ => kp_waits h2) (fun _ => kp_ite (fun _ => kp_stay h2) (fun _ => kp_ite (fun _ => kp_quash h2) (fun _ => kp_ite (fun _ => kp_month h2) (fun _ => kp_ite (fun _ => kp_held h2) (fun _ => kp_ite (fun _ => kp_tear h2) (fun _ => kp_ite (fun _ => kp_copy h2) (fun _ => kp_ite (fun _ => kp_off h2) (fun _ => kp_ite (fun _ => kp_back h2) (fun _ => kp_ite (fun _ => kp_grant h2) (fun _ => kp_recall h2))))))))))))))
/-- the first state -/
def g0 : Sg := (fun _ _ => 0, 0, 0, 0, -1, 0, fun _ => 0)
theorem stB_RS0 {P k : Nat} : runsB (RS0.1 P) k = false := by simp [runsB, RS0]
theorem gdS_RS0 : gdS RS0 := by
  refine ⟨fun P hP => ⟨fun i hi => ?_, fun S hS hr => ?_, Or.inl rfl, fun i hi h => rfl⟩, fun P hP M hM => ⟨Or.inl rfl, 0, by decide, rfl⟩⟩
  · refine ⟨⟨0, by decide, rfl⟩, ⟨0, by decide, rfl⟩, ⟨0, by decide, rfl⟩, ⟨0, by decide, rfl, fun h => ?_⟩, ⟨0, by decide, rfl⟩, Or.inl rfl, ⟨0, by decide, rfl⟩, ⟨0, by decide, rfl⟩, ⟨0, by decide, rfl⟩, fun _ => rfl⟩
    rw [stB_RS0] at h
    cases h
  · obtain ⟨k, hk, hs⟩ := hS
    have := hr k hk hs
    rw [stB_RS0] at this
    cases this
theorem okS_g0 : okS g0 := by
  refine ⟨⟨by decide, by decide, by decide⟩, Or.inl rfl, ⟨by decide, fun j hj => absurd hj (Nat.not_lt_zero j)⟩, fun i hi => absurd hi (Nat.not_lt_zero i), fun i j _ hj => absurd hj (Nat.not_lt_zero j), fun m hm => ?_⟩
  have : m = 0 := Nat.le_zero.mp hm
  subst this
  exact gdS_RS0
