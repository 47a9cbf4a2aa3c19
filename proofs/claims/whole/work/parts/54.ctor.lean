/-! the constructors -/
theorem ini_10 {r : Nat} (h : kd r = 10 ∨ kd r = 11 ∨ kd r = 3 ∨ kd r = 4 ∨ kd r = 5 ∨ kd r = 6 ∨ kd r = 0) (j : Nat) : ini r j = 0 := by
  unfold ini
  rw [if_neg (by omega)]
theorem Dn_i {ac : Nat → ClassId} {b : Bt} {r N : Nat} (hk : kd r = 10) (hl : ln r = N) (hc : b.2.1 r = .inl (ac 0, N, .inl (fun _ => 0))) : Dn ac b r := by
  intro lay _
  rw [hc]
  have : ini r = fun _ => 0 := funext (ini_10 (Or.inl hk))
  simp [ceB, cellF, hk, hl, this]
theorem Dn_z {ac : Nat → ClassId} {b : Bt} {r N : Nat} (hk : kd r = 11) (hl : ln r = N) (hc : b.2.1 r = .inl (ac 1, N, .inl (fun _ => 0))) : Dn ac b r := by
  intro lay _
  rw [hc]
  have : ini r = fun _ => 0 := funext (ini_10 (Or.inr (Or.inl hk)))
  simp [ceB, cellF, hk, hl, this]
theorem Dn_q {ac : Nat → ClassId} {b : Bt} {r : Nat} (hk : kd r = 12) (hc : b.2.1 r = .inl (ac 2, 400, .inr (.inr (.inr (.inr (fun _ => none)))))) : Dn ac b r := by
  intro lay _
  rw [hc]
  simp [ceB, hk]
theorem Pg.row1 {ac : Nat → ClassId} {q x : Nat} {F G : (Nat → Nat) → va_E} {b0 b b2 : Bt} (h : Pg ac q F x G b0 b) (hk : ∀ q, Kp q b b2) (h1 : b2.1 = b.1 + 1) (hd : Dn ac b2 b.1) : Pg ac q F x G b0 b2 := h.grow hk (fun r h2 h3 => by
  have : r = b.1 := by omega
  subst this
  exact hd)
theorem Pg.call {ac : Nat → ClassId} {q x sz : Nat} {F G : (Nat → Nat) → va_E} {b0 b b1 b2 : Bt} (h : Pg ac q F x G b0 b) (hk : ∀ q, Kp q b b1) (hk2 : Kp b.1 b1 b2) (h2 : b2.1 = b.1 + sz) (hd : ∀ r, b.1 ≤ r → r < b.1 + sz → Dn ac b2 r) : Pg ac q F x G b0 b2 := h.grow (Kp.mkd hk hk2) (fun r h3 h4 => hd r h3 (by omega))
section JP
variable {X : Cx} {cc : ByteArray} {own : String} {nL d k n pc : Nat} {ls ls' : List (Option Value)} {st : List Value} {w : Bt}
theorem j_pput {ac : Nat → ClassId} {q x ci j idx N : Nat} {C : String} {T : u_T} {ty : FieldType} {v : Value} {FL : (Nat → Nat) → List Value} {G : (Nat → Nat) → va_E} {b0 : Bt} (FL' : (Nat → Nat) → List Value) (h : Pg ac q (fun lay => .inr (ci, FL lay)) x G b0 w) (hp : PutB own idx ci j N C T ty) (hX : Kx X cc own nL d) (hnm0 : (xmt X).name = "<init>") (hn : narrow ty v = v) (hfit : fits ty v = true) (hlen : ∀ lay, j < (FL lay).length) (hd : decode cc pc = .ok (.putfield idx, 3)) (he : ∀ lay, Ag w lay → FL' lay = (FL lay).set j v)
    (kk : ∀ w2 : Bt, w2.1 = w.1 → Pg ac q (fun lay => .inr (ci, FL' lay)) x G b0 w2 → J X k n (pc + 3) ls st w2) : J X k n pc ls (v :: .ref (b0.2.2 q) :: st) w := by
  rw [← h.la]
  have hs := h.self
  refine j_put hp hX hnm0 h.lt hs hn hfit (hlen _) hd (kk _ rfl ?_)
  refine h.put (fun lay => .inr (ci, FL' lay)) (fun lay ha => ?_)
  have h2 := h.2.2 q (Nat.le_refl _) h.lt lay ha
  rw [if_pos rfl, hs] at h2
  have h3 : FL w.2.2 = FL lay := congrArg Prod.snd (Sum.inr.inj h2)
  show (.inr (ci, _) : va_E) = .inr (ci, FL' lay)
  rw [he lay ha, h3]
theorem j_pget {ac : Nat → ClassId} {q x z ci j idx N : Nat} {C : String} {T : u_T} {ty : FieldType} {FL : (Nat → Nat) → List Value} {G : (Nat → Nat) → va_E} {b0 : Bt} (h : Pg ac q (fun lay => .inr (ci, FL lay)) x G b0 w) (hp : PutB own idx ci j N C T ty) (hX : Kx X cc own nL d) (hv : ∀ lay, (FL lay)[j]? = some (.ref (lay z))) (hd : decode cc pc = .ok (.getfield idx, 3)) (kk : J X k n (pc + 3) ls (.ref (w.2.2 z) :: st) w) : J X k n pc ls (.ref (b0.2.2 q) :: st) w := by
  rw [← h.la]
  exact j_get hp hX h.lt h.self (hv _) hd kk
end JP
theorem ce_1 {ac : Nat → ClassId} {lay : Nat → Nat} {r : Nat} (h : kd r = 1) : ceB ac lay r = .inr (1, [.ref (lay (r + 1)), .ref (lay (r + 2)), .ref (lay (r + 3)), .ref (lay (r + 4)), .int (-1)]) := by simp [ceB, cellF, ini, h]
theorem ce_2 {ac : Nat → ClassId} {lay : Nat → Nat} {r : Nat} (h : kd r = 2) : ceB ac lay r = .inr (2, [.int 0, .int 0, .int 0, .int 0, .int 0, .int (-1), .int 0, .int 0, .int 0]) := by simp [ceB, cellF, ini, h]
theorem ce_3 {ac : Nat → ClassId} {lay : Nat → Nat} {r : Nat} (h : kd r = 3) : ceB ac lay r = .inr (3, [.ref (lay (r + 1)), .ref (lay (r + 2)), .ref (lay (r + 3)), .ref (lay (r + 4)), .ref (lay (r + 5)), .ref (lay (r + 6)), .int 0]) := by simp [ceB, cellF, ini, h]
theorem ce_4 {ac : Nat → ClassId} {lay : Nat → Nat} {r : Nat} (h : kd r = 4) : ceB ac lay r = .inr (4, [.ref (lay (r + 1)), .int 0]) := by simp [ceB, cellF, ini, h]
theorem ce_5 {ac : Nat → ClassId} {lay : Nat → Nat} {r : Nat} (h : kd r = 5) : ceB ac lay r = .inr (5, [.ref (lay (r + 1)), .int 0, .ref (lay (r + 2)), .ref (lay (r + 3))]) := by simp [ceB, cellF, ini, h]
theorem ce_6 {ac : Nat → ClassId} {lay : Nat → Nat} {r : Nat} (h : kd r = 6) : ceB ac lay r = .inr (6, [.int 0, .int 0, .int 0, .int 0, .int 0, .int 0]) := by simp [ceB, cellF, ini, h]
theorem ce_7 {ac : Nat → ClassId} {lay : Nat → Nat} {r : Nat} (h : kd r = 7) : ceB ac lay r = .inr (7, [.ref (lay 1), .int 0, .int 0, .int 0, .int (-1), .ref (lay 2), .ref (lay 106), .ref (lay 210), .ref (lay 217)]) := by simp [ceB, cellF, ini, h]
theorem ce_8 {ac : Nat → ClassId} {lay : Nat → Nat} {r : Nat} (h : kd r = 8) : ceB ac lay r = .inr (8, modelFs (fun j => if j = 1 then -1 else 0) lay) := by simp [ceB, cellF, ini, h, modelFs]
theorem ce_13 {ac : Nat → ClassId} {lay : Nat → Nat} {r : Nat} (h : kd r = 13) : ceB ac lay r = .inl (ac 3, 6, .inr (.inr (.inr (.inr (fun j => if j < 6 then some (lay (r + 1 + 17 * j)) else none))))) := by simp [ceB, h]
theorem ce_14 {ac : Nat → ClassId} {lay : Nat → Nat} {r : Nat} (h : kd r = 14) : ceB ac lay r = .inl (ac 4, 12, .inr (.inr (.inr (.inr (fun j => if j < 12 then some (lay (r + 4 + j)) else none))))) := by simp [ceB, h]
theorem up_lt {f : Nat → Nat} {g : Nat → Nat} {i M : Nat} (h : ∀ j, j ≤ i → f j = g j) : va_up (fun j => if j < i then some (f j) else none) i (some (f i)) = fun j => if j < i + 1 then some (g j) else none := by
  funext j
  unfold va_up
  by_cases hj : j = i
  · rw [if_pos hj, if_pos (by omega), hj, h i (Nat.le_refl _)]
  · rw [if_neg hj]
    show (if j < i then some (f j) else none) = _
    by_cases hl : j < i
    · rw [if_pos hl, if_pos (by omega), h j (by omega)]
    · rw [if_neg hl, if_neg (by omega)]
theorem pb_X2_9 : PutB RX2 9 2 0 9 RX2 TX2 (tyX2 0) := ⟨rfl, inU_X2, ⟨tyX2, tyX2_ok⟩, nmX2, by decide, mw (i := 87) (by decide +kernel) (by decide +kernel), Or.inl rfl, tyX2_ok 0 (by decide)⟩
theorem pb_X2_15 : PutB RX2 15 2 1 9 RX2 TX2 (tyX2 1) := ⟨rfl, inU_X2, ⟨tyX2, tyX2_ok⟩, nmX2, by decide, mw (i := 91) (by decide +kernel) (by decide +kernel), Or.inl rfl, tyX2_ok 1 (by decide)⟩
theorem pb_X2_18 : PutB RX2 18 2 2 9 RX2 TX2 (tyX2 2) := ⟨rfl, inU_X2, ⟨tyX2, tyX2_ok⟩, nmX2, by decide, mw (i := 95) (by decide +kernel) (by decide +kernel), Or.inl rfl, tyX2_ok 2 (by decide)⟩
theorem pb_X2_21 : PutB RX2 21 2 3 9 RX2 TX2 (tyX2 3) := ⟨rfl, inU_X2, ⟨tyX2, tyX2_ok⟩, nmX2, by decide, mw (i := 99) (by decide +kernel) (by decide +kernel), Or.inl rfl, tyX2_ok 3 (by decide)⟩
theorem pb_X2_24 : PutB RX2 24 2 4 9 RX2 TX2 (tyX2 4) := ⟨rfl, inU_X2, ⟨tyX2, tyX2_ok⟩, nmX2, by decide, mw (i := 102) (by decide +kernel) (by decide +kernel), Or.inl rfl, tyX2_ok 4 (by decide)⟩
theorem pb_X2_27 : PutB RX2 27 2 5 9 RX2 TX2 (tyX2 5) := ⟨rfl, inU_X2, ⟨tyX2, tyX2_ok⟩, nmX2, by decide, mw (i := 106) (by decide +kernel) (by decide +kernel), Or.inl rfl, tyX2_ok 5 (by decide)⟩
theorem pb_X2_30 : PutB RX2 30 2 6 9 RX2 TX2 (tyX2 6) := ⟨rfl, inU_X2, ⟨tyX2, tyX2_ok⟩, nmX2, by decide, mw (i := 109) (by decide +kernel) (by decide +kernel), Or.inl rfl, tyX2_ok 6 (by decide)⟩
theorem pb_X2_33 : PutB RX2 33 2 7 9 RX2 TX2 (tyX2 7) := ⟨rfl, inU_X2, ⟨tyX2, tyX2_ok⟩, nmX2, by decide, mw (i := 112) (by decide +kernel) (by decide +kernel), Or.inl rfl, tyX2_ok 7 (by decide)⟩
theorem pb_X2_36 : PutB RX2 36 2 8 9 RX2 TX2 (tyX2 8) := ⟨rfl, inU_X2, ⟨tyX2, tyX2_ok⟩, nmX2, by decide, mw (i := 114) (by decide +kernel) (by decide +kernel), Or.inl rfl, tyX2_ok 8 (by decide)⟩
theorem pb_X6_9 : PutB RX6 9 6 0 6 RX6 TX6 (tyX6 0) := ⟨rfl, inU_X6, ⟨tyX6, tyX6_ok⟩, nmX6, by decide, mw (i := 175) (by decide +kernel) (by decide +kernel), Or.inl rfl, tyX6_ok 0 (by decide)⟩
theorem pb_X6_15 : PutB RX6 15 6 1 6 RX6 TX6 (tyX6 1) := ⟨rfl, inU_X6, ⟨tyX6, tyX6_ok⟩, nmX6, by decide, mw (i := 176) (by decide +kernel) (by decide +kernel), Or.inl rfl, tyX6_ok 1 (by decide)⟩
theorem pb_X6_18 : PutB RX6 18 6 2 6 RX6 TX6 (tyX6 2) := ⟨rfl, inU_X6, ⟨tyX6, tyX6_ok⟩, nmX6, by decide, mw (i := 177) (by decide +kernel) (by decide +kernel), Or.inl rfl, tyX6_ok 2 (by decide)⟩
theorem pb_X6_21 : PutB RX6 21 6 3 6 RX6 TX6 (tyX6 3) := ⟨rfl, inU_X6, ⟨tyX6, tyX6_ok⟩, nmX6, by decide, mw (i := 178) (by decide +kernel) (by decide +kernel), Or.inl rfl, tyX6_ok 3 (by decide)⟩
theorem pb_X6_24 : PutB RX6 24 6 4 6 RX6 TX6 (tyX6 4) := ⟨rfl, inU_X6, ⟨tyX6, tyX6_ok⟩, nmX6, by decide, mw (i := 179) (by decide +kernel) (by decide +kernel), Or.inl rfl, tyX6_ok 4 (by decide)⟩
theorem pb_X6_27 : PutB RX6 27 6 5 6 RX6 TX6 (tyX6 5) := ⟨rfl, inU_X6, ⟨tyX6, tyX6_ok⟩, nmX6, by decide, mw (i := 180) (by decide +kernel) (by decide +kernel), Or.inl rfl, tyX6_ok 5 (by decide)⟩
theorem pb_X1_11 : PutB RX1 11 1 0 5 RX1 TX1 (tyX1 0) := ⟨rfl, inU_X1, ⟨tyX1, tyX1_ok⟩, nmX1, by decide, mw (i := 138) (by decide +kernel) (by decide +kernel), Or.inr ⟨rfl, rfl⟩, tyX1_ok 0 (by decide)⟩
theorem pb_X1_17 : PutB RX1 17 1 1 5 RX1 TX1 (tyX1 1) := ⟨rfl, inU_X1, ⟨tyX1, tyX1_ok⟩, nmX1, by decide, mw (i := 139) (by decide +kernel) (by decide +kernel), Or.inr ⟨rfl, rfl⟩, tyX1_ok 1 (by decide)⟩
theorem pb_X1_21 : PutB RX1 21 1 2 5 RX1 TX1 (tyX1 2) := ⟨rfl, inU_X1, ⟨tyX1, tyX1_ok⟩, nmX1, by decide, mw (i := 140) (by decide +kernel) (by decide +kernel), Or.inr ⟨rfl, rfl⟩, tyX1_ok 2 (by decide)⟩
theorem pb_X1_24 : PutB RX1 24 1 3 5 RX1 TX1 (tyX1 3) := ⟨rfl, inU_X1, ⟨tyX1, tyX1_ok⟩, nmX1, by decide, mw (i := 141) (by decide +kernel) (by decide +kernel), Or.inr ⟨rfl, rfl⟩, tyX1_ok 3 (by decide)⟩
theorem pb_X1_27 : PutB RX1 27 1 4 5 RX1 TX1 (tyX1 4) := ⟨rfl, inU_X1, ⟨tyX1, tyX1_ok⟩, nmX1, by decide, mw (i := 142) (by decide +kernel) (by decide +kernel), Or.inl rfl, tyX1_ok 4 (by decide)⟩
theorem pb_X4_11 : PutB RX4 11 4 0 2 RX4 TX4 (tyX4 0) := ⟨rfl, inU_X4, ⟨tyX4, tyX4_ok⟩, nmX4, by decide, mw (i := 156) (by decide +kernel) (by decide +kernel), Or.inr ⟨rfl, rfl⟩, tyX4_ok 0 (by decide)⟩
theorem pb_X4_17 : PutB RX4 17 4 1 2 RX4 TX4 (tyX4 1) := ⟨rfl, inU_X4, ⟨tyX4, tyX4_ok⟩, nmX4, by decide, mw (i := 157) (by decide +kernel) (by decide +kernel), Or.inl rfl, tyX4_ok 1 (by decide)⟩
theorem pb_X3_9 : PutB RX3 9 3 0 7 RX3 TX3 (tyX3 0) := ⟨rfl, inU_X3, ⟨tyX3, tyX3_ok⟩, nmX3, by decide, mw (i := 194) (by decide +kernel) (by decide +kernel), Or.inr ⟨rfl, rfl⟩, tyX3_ok 0 (by decide)⟩
theorem pb_X3_15 : PutB RX3 15 3 1 7 RX3 TX3 (tyX3 1) := ⟨rfl, inU_X3, ⟨tyX3, tyX3_ok⟩, nmX3, by decide, mw (i := 195) (by decide +kernel) (by decide +kernel), Or.inr ⟨rfl, rfl⟩, tyX3_ok 1 (by decide)⟩
theorem pb_X3_18 : PutB RX3 18 3 2 7 RX3 TX3 (tyX3 2) := ⟨rfl, inU_X3, ⟨tyX3, tyX3_ok⟩, nmX3, by decide, mw (i := 196) (by decide +kernel) (by decide +kernel), Or.inr ⟨rfl, rfl⟩, tyX3_ok 2 (by decide)⟩
theorem pb_X3_21 : PutB RX3 21 3 3 7 RX3 TX3 (tyX3 3) := ⟨rfl, inU_X3, ⟨tyX3, tyX3_ok⟩, nmX3, by decide, mw (i := 197) (by decide +kernel) (by decide +kernel), Or.inr ⟨rfl, rfl⟩, tyX3_ok 3 (by decide)⟩
theorem pb_X3_24 : PutB RX3 24 3 4 7 RX3 TX3 (tyX3 4) := ⟨rfl, inU_X3, ⟨tyX3, tyX3_ok⟩, nmX3, by decide, mw (i := 198) (by decide +kernel) (by decide +kernel), Or.inr ⟨rfl, rfl⟩, tyX3_ok 4 (by decide)⟩
theorem pb_X3_30 : PutB RX3 30 3 5 7 RX3 TX3 (tyX3 5) := ⟨rfl, inU_X3, ⟨tyX3, tyX3_ok⟩, nmX3, by decide, mw (i := 199) (by decide +kernel) (by decide +kernel), Or.inr ⟨rfl, rfl⟩, tyX3_ok 5 (by decide)⟩
theorem pb_X3_34 : PutB RX3 34 3 6 7 RX3 TX3 (tyX3 6) := ⟨rfl, inU_X3, ⟨tyX3, tyX3_ok⟩, nmX3, by decide, mw (i := 200) (by decide +kernel) (by decide +kernel), Or.inl rfl, tyX3_ok 6 (by decide)⟩
theorem pb_X5_9 : PutB RX5 9 5 0 4 RX5 TX5 (tyX5 0) := ⟨rfl, inU_X5, ⟨tyX5, tyX5_ok⟩, nmX5, by decide, mw (i := 222) (by decide +kernel) (by decide +kernel), Or.inr ⟨rfl, rfl⟩, tyX5_ok 0 (by decide)⟩
theorem pb_X5_15 : PutB RX5 15 5 1 4 RX5 TX5 (tyX5 1) := ⟨rfl, inU_X5, ⟨tyX5, tyX5_ok⟩, nmX5, by decide, mw (i := 223) (by decide +kernel) (by decide +kernel), Or.inl rfl, tyX5_ok 1 (by decide)⟩
theorem pb_X5_19 : PutB RX5 19 5 2 4 RX5 TX5 (tyX5 2) := ⟨rfl, inU_X5, ⟨tyX5, tyX5_ok⟩, nmX5, by decide, mw (i := 224) (by decide +kernel) (by decide +kernel), Or.inr ⟨rfl, rfl⟩, tyX5_ok 2 (by decide)⟩
theorem pb_X5_22 : PutB RX5 22 5 3 4 RX5 TX5 (tyX5 3) := ⟨rfl, inU_X5, ⟨tyX5, tyX5_ok⟩, nmX5, by decide, mw (i := 225) (by decide +kernel) (by decide +kernel), Or.inr ⟨rfl, rfl⟩, tyX5_ok 3 (by decide)⟩
theorem pb_X8_9 : PutB RX8 9 8 1 33 RX8 TX8 (tyX8 1) := ⟨rfl, inU_X8, ⟨tyX8, tyX8_ok⟩, nmX8, by decide, mw (i := 804) (by decide +kernel) (by decide +kernel), Or.inl rfl, tyX8_ok 1 (by decide)⟩
theorem pb_X8_13 : PutB RX8 13 8 3 33 RX8 TX8 (tyX8 3) := ⟨rfl, inU_X8, ⟨tyX8, tyX8_ok⟩, nmX8, by decide, mw (i := 806) (by decide +kernel) (by decide +kernel), Or.inr ⟨rfl, rfl⟩, tyX8_ok 3 (by decide)⟩
theorem pb_X8_17 : PutB RX8 17 8 4 33 RX8 TX8 (tyX8 4) := ⟨rfl, inU_X8, ⟨tyX8, tyX8_ok⟩, nmX8, by decide, mw (i := 807) (by decide +kernel) (by decide +kernel), Or.inr ⟨rfl, rfl⟩, tyX8_ok 4 (by decide)⟩
theorem pb_X8_20 : PutB RX8 20 8 6 33 RX8 TX8 (tyX8 6) := ⟨rfl, inU_X8, ⟨tyX8, tyX8_ok⟩, nmX8, by decide, mw (i := 809) (by decide +kernel) (by decide +kernel), Or.inr ⟨rfl, rfl⟩, tyX8_ok 6 (by decide)⟩
theorem pb_X8_23 : PutB RX8 23 8 7 33 RX8 TX8 (tyX8 7) := ⟨rfl, inU_X8, ⟨tyX8, tyX8_ok⟩, nmX8, by decide, mw (i := 810) (by decide +kernel) (by decide +kernel), Or.inr ⟨rfl, rfl⟩, tyX8_ok 7 (by decide)⟩
theorem pb_X8_26 : PutB RX8 26 8 8 33 RX8 TX8 (tyX8 8) := ⟨rfl, inU_X8, ⟨tyX8, tyX8_ok⟩, nmX8, by decide, mw (i := 811) (by decide +kernel) (by decide +kernel), Or.inr ⟨rfl, rfl⟩, tyX8_ok 8 (by decide)⟩
theorem pb_X8_29 : PutB RX8 29 8 9 33 RX8 TX8 (tyX8 9) := ⟨rfl, inU_X8, ⟨tyX8, tyX8_ok⟩, nmX8, by decide, mw (i := 812) (by decide +kernel) (by decide +kernel), Or.inr ⟨rfl, rfl⟩, tyX8_ok 9 (by decide)⟩
theorem pb_X8_32 : PutB RX8 32 8 10 33 RX8 TX8 (tyX8 10) := ⟨rfl, inU_X8, ⟨tyX8, tyX8_ok⟩, nmX8, by decide, mw (i := 813) (by decide +kernel) (by decide +kernel), Or.inr ⟨rfl, rfl⟩, tyX8_ok 10 (by decide)⟩
theorem pb_X8_35 : PutB RX8 35 8 11 33 RX8 TX8 (tyX8 11) := ⟨rfl, inU_X8, ⟨tyX8, tyX8_ok⟩, nmX8, by decide, mw (i := 814) (by decide +kernel) (by decide +kernel), Or.inr ⟨rfl, rfl⟩, tyX8_ok 11 (by decide)⟩
theorem pb_X8_38 : PutB RX8 38 8 12 33 RX8 TX8 (tyX8 12) := ⟨rfl, inU_X8, ⟨tyX8, tyX8_ok⟩, nmX8, by decide, mw (i := 815) (by decide +kernel) (by decide +kernel), Or.inr ⟨rfl, rfl⟩, tyX8_ok 12 (by decide)⟩
theorem pb_X8_41 : PutB RX8 41 8 13 33 RX8 TX8 (tyX8 13) := ⟨rfl, inU_X8, ⟨tyX8, tyX8_ok⟩, nmX8, by decide, mw (i := 816) (by decide +kernel) (by decide +kernel), Or.inr ⟨rfl, rfl⟩, tyX8_ok 13 (by decide)⟩
theorem pb_X8_44 : PutB RX8 44 8 14 33 RX8 TX8 (tyX8 14) := ⟨rfl, inU_X8, ⟨tyX8, tyX8_ok⟩, nmX8, by decide, mw (i := 817) (by decide +kernel) (by decide +kernel), Or.inr ⟨rfl, rfl⟩, tyX8_ok 14 (by decide)⟩
theorem pb_X8_47 : PutB RX8 47 8 16 33 RX8 TX8 (tyX8 16) := ⟨rfl, inU_X8, ⟨tyX8, tyX8_ok⟩, nmX8, by decide, mw (i := 819) (by decide +kernel) (by decide +kernel), Or.inr ⟨rfl, rfl⟩, tyX8_ok 16 (by decide)⟩
theorem pb_X8_50 : PutB RX8 50 8 17 33 RX8 TX8 (tyX8 17) := ⟨rfl, inU_X8, ⟨tyX8, tyX8_ok⟩, nmX8, by decide, mw (i := 820) (by decide +kernel) (by decide +kernel), Or.inr ⟨rfl, rfl⟩, tyX8_ok 17 (by decide)⟩
theorem pb_X8_54 : PutB RX8 54 8 18 33 RX8 TX8 (tyX8 18) := ⟨rfl, inU_X8, ⟨tyX8, tyX8_ok⟩, nmX8, by decide, mw (i := 821) (by decide +kernel) (by decide +kernel), Or.inr ⟨rfl, rfl⟩, tyX8_ok 18 (by decide)⟩
theorem pb_X8_57 : PutB RX8 57 8 19 33 RX8 TX8 (tyX8 19) := ⟨rfl, inU_X8, ⟨tyX8, tyX8_ok⟩, nmX8, by decide, mw (i := 822) (by decide +kernel) (by decide +kernel), Or.inr ⟨rfl, rfl⟩, tyX8_ok 19 (by decide)⟩
theorem pb_X8_60 : PutB RX8 60 8 20 33 RX8 TX8 (tyX8 20) := ⟨rfl, inU_X8, ⟨tyX8, tyX8_ok⟩, nmX8, by decide, mw (i := 823) (by decide +kernel) (by decide +kernel), Or.inr ⟨rfl, rfl⟩, tyX8_ok 20 (by decide)⟩
theorem pb_X8_63 : PutB RX8 63 8 21 33 RX8 TX8 (tyX8 21) := ⟨rfl, inU_X8, ⟨tyX8, tyX8_ok⟩, nmX8, by decide, mw (i := 824) (by decide +kernel) (by decide +kernel), Or.inr ⟨rfl, rfl⟩, tyX8_ok 21 (by decide)⟩
theorem pb_X8_66 : PutB RX8 66 8 22 33 RX8 TX8 (tyX8 22) := ⟨rfl, inU_X8, ⟨tyX8, tyX8_ok⟩, nmX8, by decide, mw (i := 825) (by decide +kernel) (by decide +kernel), Or.inr ⟨rfl, rfl⟩, tyX8_ok 22 (by decide)⟩
theorem pb_X8_70 : PutB RX8 70 8 23 33 RX8 TX8 (tyX8 23) := ⟨rfl, inU_X8, ⟨tyX8, tyX8_ok⟩, nmX8, by decide, mw (i := 826) (by decide +kernel) (by decide +kernel), Or.inr ⟨rfl, rfl⟩, tyX8_ok 23 (by decide)⟩
theorem pb_X8_73 : PutB RX8 73 8 24 33 RX8 TX8 (tyX8 24) := ⟨rfl, inU_X8, ⟨tyX8, tyX8_ok⟩, nmX8, by decide, mw (i := 827) (by decide +kernel) (by decide +kernel), Or.inr ⟨rfl, rfl⟩, tyX8_ok 24 (by decide)⟩
theorem pb_X8_76 : PutB RX8 76 8 25 33 RX8 TX8 (tyX8 25) := ⟨rfl, inU_X8, ⟨tyX8, tyX8_ok⟩, nmX8, by decide, mw (i := 828) (by decide +kernel) (by decide +kernel), Or.inr ⟨rfl, rfl⟩, tyX8_ok 25 (by decide)⟩
theorem pb_X8_79 : PutB RX8 79 8 26 33 RX8 TX8 (tyX8 26) := ⟨rfl, inU_X8, ⟨tyX8, tyX8_ok⟩, nmX8, by decide, mw (i := 829) (by decide +kernel) (by decide +kernel), Or.inr ⟨rfl, rfl⟩, tyX8_ok 26 (by decide)⟩
theorem pb_X8_82 : PutB RX8 82 8 27 33 RX8 TX8 (tyX8 27) := ⟨rfl, inU_X8, ⟨tyX8, tyX8_ok⟩, nmX8, by decide, mw (i := 830) (by decide +kernel) (by decide +kernel), Or.inr ⟨rfl, rfl⟩, tyX8_ok 27 (by decide)⟩
theorem pb_X8_85 : PutB RX8 85 8 28 33 RX8 TX8 (tyX8 28) := ⟨rfl, inU_X8, ⟨tyX8, tyX8_ok⟩, nmX8, by decide, mw (i := 831) (by decide +kernel) (by decide +kernel), Or.inr ⟨rfl, rfl⟩, tyX8_ok 28 (by decide)⟩
theorem pb_X8_88 : PutB RX8 88 8 29 33 RX8 TX8 (tyX8 29) := ⟨rfl, inU_X8, ⟨tyX8, tyX8_ok⟩, nmX8, by decide, mw (i := 832) (by decide +kernel) (by decide +kernel), Or.inr ⟨rfl, rfl⟩, tyX8_ok 29 (by decide)⟩
theorem pb_X8_91 : PutB RX8 91 8 31 33 RX8 TX8 (tyX8 31) := ⟨rfl, inU_X8, ⟨tyX8, tyX8_ok⟩, nmX8, by decide, mw (i := 834) (by decide +kernel) (by decide +kernel), Or.inr ⟨rfl, rfl⟩, tyX8_ok 31 (by decide)⟩
theorem pb_X7_11 : PutB RX7 11 7 0 9 RX7 TX7 (tyX7 0) := ⟨rfl, inU_X7, ⟨tyX7, tyX7_ok⟩, nmX7, by decide, mw (i := 235) (by decide +kernel) (by decide +kernel), Or.inr ⟨rfl, rfl⟩, tyX7_ok 0 (by decide)⟩
theorem pb_X7_15 : PutB RX7 15 7 1 9 RX7 TX7 (tyX7 1) := ⟨rfl, inU_X7, ⟨tyX7, tyX7_ok⟩, nmX7, by decide, mw (i := 236) (by decide +kernel) (by decide +kernel), Or.inl rfl, tyX7_ok 1 (by decide)⟩
theorem pb_X7_19 : PutB RX7 19 7 2 9 RX7 TX7 (tyX7 2) := ⟨rfl, inU_X7, ⟨tyX7, tyX7_ok⟩, nmX7, by decide, mw (i := 237) (by decide +kernel) (by decide +kernel), Or.inl rfl, tyX7_ok 2 (by decide)⟩
theorem pb_X7_22 : PutB RX7 22 7 3 9 RX7 TX7 (tyX7 3) := ⟨rfl, inU_X7, ⟨tyX7, tyX7_ok⟩, nmX7, by decide, mw (i := 238) (by decide +kernel) (by decide +kernel), Or.inl rfl, tyX7_ok 3 (by decide)⟩
theorem pb_X7_25 : PutB RX7 25 7 4 9 RX7 TX7 (tyX7 4) := ⟨rfl, inU_X7, ⟨tyX7, tyX7_ok⟩, nmX7, by decide, mw (i := 239) (by decide +kernel) (by decide +kernel), Or.inl rfl, tyX7_ok 4 (by decide)⟩
theorem pb_X7_31 : PutB RX7 31 7 5 9 RX7 TX7 (tyX7 5) := ⟨rfl, inU_X7, ⟨tyX7, tyX7_ok⟩, nmX7, by decide, mw (i := 240) (by decide +kernel) (by decide +kernel), Or.inr ⟨rfl, rfl⟩, tyX7_ok 5 (by decide)⟩
theorem pb_X7_35 : PutB RX7 35 7 6 9 RX7 TX7 (tyX7 6) := ⟨rfl, inU_X7, ⟨tyX7, tyX7_ok⟩, nmX7, by decide, mw (i := 241) (by decide +kernel) (by decide +kernel), Or.inr ⟨rfl, rfl⟩, tyX7_ok 6 (by decide)⟩
theorem pb_X7_41 : PutB RX7 41 7 7 9 RX7 TX7 (tyX7 7) := ⟨rfl, inU_X7, ⟨tyX7, tyX7_ok⟩, nmX7, by decide, mw (i := 242) (by decide +kernel) (by decide +kernel), Or.inr ⟨rfl, rfl⟩, tyX7_ok 7 (by decide)⟩
theorem pb_X7_48 : PutB RX7 48 7 8 9 RX7 TX7 (tyX7 8) := ⟨rfl, inU_X7, ⟨tyX7, tyX7_ok⟩, nmX7, by decide, mw (i := 243) (by decide +kernel) (by decide +kernel), Or.inr ⟨rfl, rfl⟩, tyX7_ok 8 (by decide)⟩
set_option maxHeartbeats 1000000 in
theorem c_X2_init : CtJ yX2_init cX2_init 1 1 0 0 2 2 1 [.int 0, .int 0, .int 0, .int 0, .int 0, .int 0, .int 0, .int 0, .int 0] := by
  refine CtJ.mk (by decide +kernel) (by decide) ?_
  intro X b q Po hX hR hZ hAO hb hkd hc hPo
  have P0 := Pg.start (ac := xac X) hb hc
  have N0 : b.1 = q + 1 := hb
  show J X 0 0 0 [some (.ref (b.2.2 q))] [] b
  refine j_aload_n hX dX2_init_0 rfl ?_
  refine j_obj hX ol_X2_3 rfl (by decide) (by decide) dX2_init_1 ?_
  refine j_aload_n hX dX2_init_4 rfl ?_
  refine j_iconst (0) hX dX2_init_5 (by decide) ?_
  refine j_pput (fun lay => [.int 0, .int 0, .int 0, .int 0, .int 0, .int 0, .int 0, .int 0, .int 0]) P0 pb_X2_9 hX hZ.2.1 rfl rfl (fun _ => Nat.le_of_ble_eq_true rfl) dX2_init_6 (fun _ _ => rfl) ?_
  intro w1 h1 P1
  have N1 : w1.1 = q + 1 := by omega
  refine j_aload_n hX dX2_init_9 rfl ?_
  refine j_iconst (0) hX dX2_init_10 (by decide) ?_
  refine j_pput (fun lay => [.int 0, .int 0, .int 0, .int 0, .int 0, .int 0, .int 0, .int 0, .int 0]) P1 pb_X2_15 hX hZ.2.1 rfl rfl (fun _ => Nat.le_of_ble_eq_true rfl) dX2_init_11 (fun _ _ => rfl) ?_
  intro w2 h2 P2
  have N2 : w2.1 = q + 1 := by omega
  refine j_aload_n hX dX2_init_14 rfl ?_
  refine j_iconst (0) hX dX2_init_15 (by decide) ?_
  refine j_pput (fun lay => [.int 0, .int 0, .int 0, .int 0, .int 0, .int 0, .int 0, .int 0, .int 0]) P2 pb_X2_18 hX hZ.2.1 rfl rfl (fun _ => Nat.le_of_ble_eq_true rfl) dX2_init_16 (fun _ _ => rfl) ?_
  intro w3 h3 P3
  have N3 : w3.1 = q + 1 := by omega
  refine j_aload_n hX dX2_init_19 rfl ?_
  refine j_iconst (0) hX dX2_init_20 (by decide) ?_
  refine j_pput (fun lay => [.int 0, .int 0, .int 0, .int 0, .int 0, .int 0, .int 0, .int 0, .int 0]) P3 pb_X2_21 hX hZ.2.1 rfl rfl (fun _ => Nat.le_of_ble_eq_true rfl) dX2_init_21 (fun _ _ => rfl) ?_
  intro w4 h4 P4
  have N4 : w4.1 = q + 1 := by omega
  refine j_aload_n hX dX2_init_24 rfl ?_
  refine j_iconst (0) hX dX2_init_25 (by decide) ?_
  refine j_pput (fun lay => [.int 0, .int 0, .int 0, .int 0, .int 0, .int 0, .int 0, .int 0, .int 0]) P4 pb_X2_24 hX hZ.2.1 rfl rfl (fun _ => Nat.le_of_ble_eq_true rfl) dX2_init_26 (fun _ _ => rfl) ?_
  intro w5 h5 P5
  have N5 : w5.1 = q + 1 := by omega
  refine j_aload_n hX dX2_init_29 rfl ?_
  refine j_iconst (-1) hX dX2_init_30 (by decide) ?_
  refine j_pput (fun lay => [.int 0, .int 0, .int 0, .int 0, .int 0, .int (-1), .int 0, .int 0, .int 0]) P5 pb_X2_27 hX hZ.2.1 rfl rfl (fun _ => Nat.le_of_ble_eq_true rfl) dX2_init_31 (fun _ _ => rfl) ?_
  intro w6 h6 P6
  have N6 : w6.1 = q + 1 := by omega
  refine j_aload_n hX dX2_init_34 rfl ?_
  refine j_iconst (0) hX dX2_init_35 (by decide) ?_
  refine j_pput (fun lay => [.int 0, .int 0, .int 0, .int 0, .int 0, .int (-1), .int 0, .int 0, .int 0]) P6 pb_X2_30 hX hZ.2.1 rfl rfl (fun _ => Nat.le_of_ble_eq_true rfl) dX2_init_36 (fun _ _ => rfl) ?_
  intro w7 h7 P7
  have N7 : w7.1 = q + 1 := by omega
  refine j_aload_n hX dX2_init_39 rfl ?_
  refine j_iconst (0) hX dX2_init_40 (by decide) ?_
  refine j_pput (fun lay => [.int 0, .int 0, .int 0, .int 0, .int 0, .int (-1), .int 0, .int 0, .int 0]) P7 pb_X2_33 hX hZ.2.1 rfl rfl (fun _ => Nat.le_of_ble_eq_true rfl) dX2_init_41 (fun _ _ => rfl) ?_
  intro w8 h8 P8
  have N8 : w8.1 = q + 1 := by omega
  refine j_aload_n hX dX2_init_44 rfl ?_
  refine j_iconst (0) hX dX2_init_45 (by decide) ?_
  refine j_pput (fun lay => [.int 0, .int 0, .int 0, .int 0, .int 0, .int (-1), .int 0, .int 0, .int 0]) P8 pb_X2_36 hX hZ.2.1 rfl rfl (fun _ => Nat.le_of_ble_eq_true rfl) dX2_init_46 (fun _ _ => rfl) ?_
  intro w9 h9 P9
  have N9 : w9.1 = q + 1 := by omega
  refine j_vret hX hR dX2_init_49 ⟨by omega, by omega⟩ ?_
  exact hPo _ P9.1 N9 (fun r h1 h2 => P9.done (fun lay => (ce_2 hkd).symm) (fun lay hx => absurd rfl hx) r h1 (by omega))
set_option maxHeartbeats 1000000 in
theorem c_X6_init : CtJ yX6_init cX6_init 1 1 0 0 6 6 1 [.int 0, .int 0, .int 0, .int 0, .int 0, .int 0] := by
  refine CtJ.mk (by decide +kernel) (by decide) ?_
  intro X b q Po hX hR hZ hAO hb hkd hc hPo
  have P0 := Pg.start (ac := xac X) hb hc
  have N0 : b.1 = q + 1 := hb
  show J X 0 0 0 [some (.ref (b.2.2 q))] [] b
  refine j_aload_n hX dX6_init_0 rfl ?_
  refine j_obj hX ol_X6_3 rfl (by decide) (by decide) dX6_init_1 ?_
  refine j_aload_n hX dX6_init_4 rfl ?_
  refine j_iconst (0) hX dX6_init_5 (by decide) ?_
  refine j_pput (fun lay => [.int 0, .int 0, .int 0, .int 0, .int 0, .int 0]) P0 pb_X6_9 hX hZ.2.1 rfl rfl (fun _ => Nat.le_of_ble_eq_true rfl) dX6_init_6 (fun _ _ => rfl) ?_
  intro w1 h1 P1
  have N1 : w1.1 = q + 1 := by omega
  refine j_aload_n hX dX6_init_9 rfl ?_
  refine j_iconst (0) hX dX6_init_10 (by decide) ?_
  refine j_pput (fun lay => [.int 0, .int 0, .int 0, .int 0, .int 0, .int 0]) P1 pb_X6_15 hX hZ.2.1 rfl rfl (fun _ => Nat.le_of_ble_eq_true rfl) dX6_init_11 (fun _ _ => rfl) ?_
  intro w2 h2 P2
  have N2 : w2.1 = q + 1 := by omega
  refine j_aload_n hX dX6_init_14 rfl ?_
  refine j_iconst (0) hX dX6_init_15 (by decide) ?_
  refine j_pput (fun lay => [.int 0, .int 0, .int 0, .int 0, .int 0, .int 0]) P2 pb_X6_18 hX hZ.2.1 rfl rfl (fun _ => Nat.le_of_ble_eq_true rfl) dX6_init_16 (fun _ _ => rfl) ?_
  intro w3 h3 P3
  have N3 : w3.1 = q + 1 := by omega
  refine j_aload_n hX dX6_init_19 rfl ?_
  refine j_iconst (0) hX dX6_init_20 (by decide) ?_
  refine j_pput (fun lay => [.int 0, .int 0, .int 0, .int 0, .int 0, .int 0]) P3 pb_X6_21 hX hZ.2.1 rfl rfl (fun _ => Nat.le_of_ble_eq_true rfl) dX6_init_21 (fun _ _ => rfl) ?_
  intro w4 h4 P4
  have N4 : w4.1 = q + 1 := by omega
  refine j_aload_n hX dX6_init_24 rfl ?_
  refine j_iconst (0) hX dX6_init_25 (by decide) ?_
  refine j_pput (fun lay => [.int 0, .int 0, .int 0, .int 0, .int 0, .int 0]) P4 pb_X6_24 hX hZ.2.1 rfl rfl (fun _ => Nat.le_of_ble_eq_true rfl) dX6_init_26 (fun _ _ => rfl) ?_
  intro w5 h5 P5
  have N5 : w5.1 = q + 1 := by omega
  refine j_aload_n hX dX6_init_29 rfl ?_
  refine j_iconst (0) hX dX6_init_30 (by decide) ?_
  refine j_pput (fun lay => [.int 0, .int 0, .int 0, .int 0, .int 0, .int 0]) P5 pb_X6_27 hX hZ.2.1 rfl rfl (fun _ => Nat.le_of_ble_eq_true rfl) dX6_init_31 (fun _ _ => rfl) ?_
  intro w6 h6 P6
  have N6 : w6.1 = q + 1 := by omega
  refine j_vret hX hR dX6_init_34 ⟨by omega, by omega⟩ ?_
  exact hPo _ P6.1 N6 (fun r h1 h2 => P6.done (fun lay => (ce_6 hkd).symm) (fun lay hx => absurd rfl hx) r h1 (by omega))
set_option maxHeartbeats 1000000 in
theorem c_X1_init : CtJ yX1_init cX1_init 2 2 16 480 1 1 17 [.null, .null, .null, .null, .int 0] := by
  refine CtJ.mk (by decide +kernel) (by decide) ?_
  intro X b q Po hX hR hZ hAO hb hkd hc hPo
  have P0 := Pg.start (ac := xac X) hb hc
  have N0 : b.1 = q + 1 := hb
  show J X 0 0 0 [some (.ref (b.2.2 q)), none] [] b
  refine j_aload_n hX dX1_init_0 rfl ?_
  refine j_obj hX ol_X1_3 rfl (by decide) (by decide) dX1_init_1 ?_
  refine j_aload_n hX dX1_init_4 rfl ?_
  refine j_bipush (12) hX dX1_init_5 (by decide) ?_
  refine j_newq (t := 4) (N := 12) (C := "TermReckoner$Place") hX hZ.2.2 rfl (mw (i := 80) (by decide +kernel) (by decide +kernel)) (hAO.2.2) (by decide) (by decide) ⟨by have := hZ.1.1; omega, by have := hZ.1.2; omega⟩ dX1_init_7 ?_
  intro w1 hk1 h1 hc1
  have P1 := P0.newx (fun lay => .inl (xac X 4, 12, .inr (.inr (.inr (.inr (fun _ => none)))))) hk1 h1 (fun _ => hc1)
  rw [N0] at P1
  rw [N0]
  have N1 : w1.1 = q + 2 := by omega
  refine j_pput (fun lay => [.ref (lay (q + 1)), .null, .null, .null, .int 0]) P1 pb_X1_11 hX hZ.2.1 rfl rfl (fun _ => Nat.le_of_ble_eq_true rfl) dX1_init_10 (fun lay ha => by rw [← ha (q + 1) (by omega)]; rfl) ?_
  intro w2 h2 P2
  have N2 : w2.1 = q + 2 := by omega
  refine j_aload_n hX dX1_init_13 rfl ?_
  refine j_bipush (120) hX dX1_init_14 (by decide) ?_
  refine j_newi (N := 120) hX hZ.2.2 (by decide) (by decide) ⟨by have := hZ.1.1; omega, by have := hZ.1.2; omega⟩ dX1_init_16 ?_
  intro w3 hk3 h3 hc3
  rw [N2] at hc3
  rw [N2]
  have P3 := P2.row1 hk3 h3 (by rw [N2]; exact Dn_i (K1_2 hkd) (L1_2 hkd) hc3)
  have N3 : w3.1 = q + 3 := by omega
  refine j_pput (fun lay => [.ref (lay (q + 1)), .ref (lay (q + 2)), .null, .null, .int 0]) P3 pb_X1_17 hX hZ.2.1 rfl rfl (fun _ => Nat.le_of_ble_eq_true rfl) dX1_init_18 (fun lay ha => by rw [← ha (q + 2) (by omega)]; rfl) ?_
  intro w4 h4 P4
  have N4 : w4.1 = q + 3 := by omega
  refine j_aload_n hX dX1_init_21 rfl ?_
  refine j_bipush (120) hX dX1_init_22 (by decide) ?_
  refine j_newi (N := 120) hX hZ.2.2 (by decide) (by decide) ⟨by have := hZ.1.1; omega, by have := hZ.1.2; omega⟩ dX1_init_24 ?_
  intro w5 hk5 h5 hc5
  rw [N4] at hc5
  rw [N4]
  have P5 := P4.row1 hk5 h5 (by rw [N4]; exact Dn_i (K1_3 hkd) (L1_3 hkd) hc5)
  have N5 : w5.1 = q + 4 := by omega
  refine j_pput (fun lay => [.ref (lay (q + 1)), .ref (lay (q + 2)), .ref (lay (q + 3)), .null, .int 0]) P5 pb_X1_21 hX hZ.2.1 rfl rfl (fun _ => Nat.le_of_ble_eq_true rfl) dX1_init_26 (fun lay ha => by rw [← ha (q + 3) (by omega)]; rfl) ?_
  intro w6 h6 P6
  have N6 : w6.1 = q + 4 := by omega
  refine j_aload_n hX dX1_init_29 rfl ?_
  refine j_bipush (120) hX dX1_init_30 (by decide) ?_
  refine j_newi (N := 120) hX hZ.2.2 (by decide) (by decide) ⟨by have := hZ.1.1; omega, by have := hZ.1.2; omega⟩ dX1_init_32 ?_
  intro w7 hk7 h7 hc7
  rw [N6] at hc7
  rw [N6]
  have P7 := P6.row1 hk7 h7 (by rw [N6]; exact Dn_i (K1_4 hkd) (L1_4 hkd) hc7)
  have N7 : w7.1 = q + 5 := by omega
  refine j_pput (fun lay => [.ref (lay (q + 1)), .ref (lay (q + 2)), .ref (lay (q + 3)), .ref (lay (q + 4)), .int 0]) P7 pb_X1_24 hX hZ.2.1 rfl rfl (fun _ => Nat.le_of_ble_eq_true rfl) dX1_init_34 (fun lay ha => by rw [← ha (q + 4) (by omega)]; rfl) ?_
  intro w8 h8 P8
  have N8 : w8.1 = q + 5 := by omega
  refine j_aload_n hX dX1_init_37 rfl ?_
  refine j_iconst (-1) hX dX1_init_38 (by decide) ?_
  refine j_pput (fun lay => [.ref (lay (q + 1)), .ref (lay (q + 2)), .ref (lay (q + 3)), .ref (lay (q + 4)), .int (-1)]) P8 pb_X1_27 hX hZ.2.1 rfl rfl (fun _ => Nat.le_of_ble_eq_true rfl) dX1_init_39 (fun _ _ => rfl) ?_
  intro w9 h9 P9
  have N9 : w9.1 = q + 5 := by omega
  refine j_iconst (0) hX dX1_init_42 (by decide) ?_
  have hloop : ∀ (m i : Nat) (w : Bt), i + m = 12 → w.1 = q + 1 + 4 + i → Pg (xac X) q (fun lay => .inr (1, (fun lay => [.ref (lay (q + 1)), .ref (lay (q + 2)), .ref (lay (q + 3)), .ref (lay (q + 4)), .int (-1)]) lay)) (q + 1) (fun lay => .inl (xac X 4, 12, .inr (.inr (.inr (.inr (fun j => if j < i then some (lay (q + 1 + 4 + j)) else none)))))) b w → J X (4 + 1 * i) (372 + 9 * i) 44 [some (.ref (b.2.2 q)), some (.int (nI i))] [] w := by
    intro m
    induction m with
    | zero =>
      intro i w him hw Pw
      have hi : i = 12 := by omega
      subst hi
      refine j_iload_n hX dX1_init_44 rfl ?_
      refine j_bipush (12) hX dX1_init_45 (by decide) ?_
      refine j_icmp_ge 69 hX dX1_init_47 (by decide) (fun _ => ?_) (fun z => absurd (show (12 : Int32) ≤ nI 12 by decide) z)
      refine j_vret hX hR dX1_init_69 ⟨by omega, by omega⟩ ?_
      have hw2 : w.1 = q + 17 := by omega
      exact hPo _ Pw.1 hw2 (by rw [← hw2]; exact Pw.done (fun lay => (ce_1 hkd).symm) (fun lay _ => (ce_14 (K1_1 hkd)).symm))
    | succ m ih =>
      intro i w him hw Pw
      have hi : i < 12 := by omega
      refine j_iload_n hX dX1_init_44 rfl ?_
      refine j_bipush (12) hX dX1_init_45 (by decide) ?_
      refine j_icmp_ge 69 hX dX1_init_47 (by decide) (fun z => absurd z (Int32.not_le.mpr (show nI i < nI 12 from (nI_ltI (by omega) (by omega)).mpr hi))) (fun _ => ?_)
      refine j_aload_n hX dX1_init_50 rfl ?_
      refine j_pget (z := q + 1) Pw pb_X1_11 hX (fun _ => rfl) dX1_init_51 ?_
      refine j_iload_n hX dX1_init_54 rfl ?_
      refine j_new (ci := 2) (C := RX2) (T := TX2) (fs := [.int 0, .int 0, .int 0, .int 0, .int 0, .int 0, .int 0, .int 0, .int 0]) tyX2 hX hZ.2.2 rfl inU_X2 tyX2_ok (mw (i := 80) (by decide +kernel) (by decide +kernel)) (mw (i := 82) (by decide +kernel) (by decide +kernel)) ini_X2 (by decide +kernel) ⟨by have := hZ.1.1; omega, by have := hZ.1.2; omega⟩ dX1_init_55 ?_
      intro w1 hk1 h1 hc1
      rw [hw] at hc1
      rw [hw]
      have N1 : w1.1 = q + 1 + 4 + i + 1 := by omega
      refine j_dup hX dX1_init_58 rfl ?_
      refine j_callIN (q := q + 1 + 4 + i) (host := "TermReckoner") hX hAO c_X2_init mi_X2_init (mw (i := 84) (by decide +kernel) (by decide +kernel)) rfl (mn (i := 83) (by decide +kernel) (by decide +kernel)) (by decide) rfl (Nat.le_of_ble_eq_true rfl) ⟨by have := hZ.1.1; omega, by have := hZ.1.2; omega⟩ dX1_init_59 N1 (K1_p hkd hi) hc1 ?_
      intro w2 hk2 h2 hd2
      have P2 := Pw.call hk1 (by rw [hw]; exact hk2) (by rw [hw]; exact h2) (by rw [hw]; exact hd2)
      have hkk := Kp.mkd hk1 (by rw [hw]; exact hk2)
      rw [← hk2.2.1 (q + 1 + 4 + i) (by omega), ← (hkk 0).2.1 (q + 1) (by omega)]
      have hz := (hd2 (q + 1 + 4 + i) (Nat.le_refl _) (by omega) _ (Ag.rf _)).trans (ce_2 (K1_p hkd hi))
      refine j_ast i hX (t := 4) rfl (ci := 2) (C := RX2) (T := TX2) (M := 9) rfl (by omega) (by omega) (P2.row (by omega)) hz rfl hi (by decide) dX1_init_62 ?_
      have P3 := P2.ast (fun lay => .inl (xac X 4, 12, .inr (.inr (.inr (.inr (fun j => if j < (i + 1) then some (lay (q + 1 + 4 + j)) else none)))))) hb (by omega) (fun lay ha => congrArg (fun z => (.inl (xac X 4, 12, .inr (.inr (.inr (.inr z)))) : va_E)) (up_lt (M := 0) (f := fun j => w2.2.2 (q + 1 + 4 + j)) (g := fun j => lay (q + 1 + 4 + j)) (fun j hj => (ha _ (by omega)).symm)))
      refine j_iinc (nI (i + 1)) hX dX1_init_63 rfl (nI_i1 i) rfl ?_
      refine j_goto 44 hX dX1_init_66 (by decide) ?_
      have h9 := ih (i + 1) _ (by omega) (show (bset w2 (q + 1) _).1 = _ from (by show w2.1 = _; omega)) P3
      rw [show 4 + 1 * (i + 1) = 4 + 1 * i + 1 + 0 by omega, show 372 + 9 * (i + 1) = 372 + 9 * i + 9 + 0 by omega] at h9
      exact h9
  refine j_istore_n hX dX1_init_43 (Nat.le_of_ble_eq_true rfl) rfl ?_
  exact hloop 12 0 _ (by omega) (by omega) P9
set_option maxHeartbeats 1000000 in
theorem c_X4_init : CtJ yX4_init cX4_init 2 3 103 2916 4 4 104 [.null, .int 0] := by
  refine CtJ.mk (by decide +kernel) (by decide) ?_
  intro X b q Po hX hR hZ hAO hb hkd hc hPo
  have P0 := Pg.start (ac := xac X) hb hc
  have N0 : b.1 = q + 1 := hb
  show J X 0 0 0 [some (.ref (b.2.2 q)), none] [] b
  refine j_aload_n hX dX4_init_0 rfl ?_
  refine j_obj hX ol_X4_3 rfl (by decide) (by decide) dX4_init_1 ?_
  refine j_aload_n hX dX4_init_4 rfl ?_
  refine j_bipush (6) hX dX4_init_5 (by decide) ?_
  refine j_newq (t := 3) (N := 6) (C := "TermReckoner$File") hX hZ.2.2 rfl (mw (i := 73) (by decide +kernel) (by decide +kernel)) (hAO.2.1) (by decide) (by decide) ⟨by have := hZ.1.1; omega, by have := hZ.1.2; omega⟩ dX4_init_7 ?_
  intro w1 hk1 h1 hc1
  have P1 := P0.newx (fun lay => .inl (xac X 3, 6, .inr (.inr (.inr (.inr (fun _ => none)))))) hk1 h1 (fun _ => hc1)
  rw [N0] at P1
  rw [N0]
  have N1 : w1.1 = q + 2 := by omega
  refine j_pput (fun lay => [.ref (lay (q + 1)), .int 0]) P1 pb_X4_11 hX hZ.2.1 rfl rfl (fun _ => Nat.le_of_ble_eq_true rfl) dX4_init_10 (fun lay ha => by rw [← ha (q + 1) (by omega)]; rfl) ?_
  intro w2 h2 P2
  have N2 : w2.1 = q + 2 := by omega
  refine j_aload_n hX dX4_init_13 rfl ?_
  refine j_iconst (0) hX dX4_init_14 (by decide) ?_
  refine j_pput (fun lay => [.ref (lay (q + 1)), .int 0]) P2 pb_X4_17 hX hZ.2.1 rfl rfl (fun _ => Nat.le_of_ble_eq_true rfl) dX4_init_15 (fun _ _ => rfl) ?_
  intro w3 h3 P3
  have N3 : w3.1 = q + 2 := by omega
  refine j_iconst (0) hX dX4_init_18 (by decide) ?_
  have hloop : ∀ (m i : Nat) (w : Bt), i + m = 6 → w.1 = q + 1 + 1 + 17 * i → Pg (xac X) q (fun lay => .inr (4, (fun lay => [.ref (lay (q + 1)), .int 0]) lay)) (q + 1) (fun lay => .inl (xac X 3, 6, .inr (.inr (.inr (.inr (fun j => if j < i then some (lay (q + 1 + 1 + 17 * j)) else none)))))) b w → J X (1 + 17 * i) (6 + 485 * i) 20 [some (.ref (b.2.2 q)), some (.int (nI i))] [] w := by
    intro m
    induction m with
    | zero =>
      intro i w him hw Pw
      have hi : i = 6 := by omega
      subst hi
      refine j_iload_n hX dX4_init_20 rfl ?_
      refine j_bipush (6) hX dX4_init_21 (by decide) ?_
      refine j_icmp_ge 45 hX dX4_init_23 (by decide) (fun _ => ?_) (fun z => absurd (show (6 : Int32) ≤ nI 6 by decide) z)
      refine j_vret hX hR dX4_init_45 ⟨by omega, by omega⟩ ?_
      have hw2 : w.1 = q + 104 := by omega
      exact hPo _ Pw.1 hw2 (by rw [← hw2]; exact Pw.done (fun lay => (ce_4 hkd).symm) (fun lay _ => (ce_13 (K4_1 hkd)).symm))
    | succ m ih =>
      intro i w him hw Pw
      have hi : i < 6 := by omega
      refine j_iload_n hX dX4_init_20 rfl ?_
      refine j_bipush (6) hX dX4_init_21 (by decide) ?_
      refine j_icmp_ge 45 hX dX4_init_23 (by decide) (fun z => absurd z (Int32.not_le.mpr (show nI i < nI 6 from (nI_ltI (by omega) (by omega)).mpr hi))) (fun _ => ?_)
      refine j_aload_n hX dX4_init_26 rfl ?_
      refine j_pget (z := q + 1) Pw pb_X4_11 hX (fun _ => rfl) dX4_init_27 ?_
      refine j_iload_n hX dX4_init_30 rfl ?_
      refine j_new (ci := 1) (C := RX1) (T := TX1) (fs := [.null, .null, .null, .null, .int 0]) tyX1 hX hZ.2.2 rfl inU_X1 tyX1_ok (mw (i := 73) (by decide +kernel) (by decide +kernel)) (mw (i := 75) (by decide +kernel) (by decide +kernel)) ini_X1 (by decide +kernel) ⟨by have := hZ.1.1; omega, by have := hZ.1.2; omega⟩ dX4_init_31 ?_
      intro w1 hk1 h1 hc1
      rw [hw] at hc1
      rw [hw]
      have N1 : w1.1 = q + 1 + 1 + 17 * i + 1 := by omega
      refine j_dup hX dX4_init_34 rfl ?_
      refine j_callI (q := q + 1 + 1 + 17 * i) hX hAO c_X1_init mi_X1_init (mw (i := 77) (by decide +kernel) (by decide +kernel)) rfl (mw (i := 76) (by decide +kernel) (by decide +kernel)) (by decide) rfl (Nat.le_of_ble_eq_true rfl) ⟨by have := hZ.1.1; omega, by have := hZ.1.2; omega⟩ dX4_init_35 N1 (K4_f hkd hi) hc1 ?_
      intro w2 hk2 h2 hd2
      have P2 := Pw.call hk1 (by rw [hw]; exact hk2) (by rw [hw]; exact h2) (by rw [hw]; exact hd2)
      have hkk := Kp.mkd hk1 (by rw [hw]; exact hk2)
      rw [← hk2.2.1 (q + 1 + 1 + 17 * i) (by omega), ← (hkk 0).2.1 (q + 1) (by omega)]
      have hz := (hd2 (q + 1 + 1 + 17 * i) (Nat.le_refl _) (by omega) _ (Ag.rf _)).trans (ce_1 (K4_f hkd hi))
      refine j_ast i hX (t := 3) rfl (ci := 1) (C := RX1) (T := TX1) (M := 5) rfl (by omega) (by omega) (P2.row (by omega)) hz rfl hi (by decide) dX4_init_38 ?_
      have P3 := P2.ast (fun lay => .inl (xac X 3, 6, .inr (.inr (.inr (.inr (fun j => if j < (i + 1) then some (lay (q + 1 + 1 + 17 * j)) else none)))))) hb (by omega) (fun lay ha => congrArg (fun z => (.inl (xac X 3, 6, .inr (.inr (.inr (.inr z)))) : va_E)) (up_lt (M := 0) (f := fun j => w2.2.2 (q + 1 + 1 + 17 * j)) (g := fun j => lay (q + 1 + 1 + 17 * j)) (fun j hj => (ha _ (by omega)).symm)))
      refine j_iinc (nI (i + 1)) hX dX4_init_39 rfl (nI_i1 i) rfl ?_
      refine j_goto 20 hX dX4_init_42 (by decide) ?_
      have h9 := ih (i + 1) _ (by omega) (show (bset w2 (q + 1) _).1 = _ from (by show w2.1 = _; omega)) P3
      rw [show 1 + 17 * (i + 1) = 1 + 17 * i + 1 + 16 by omega, show 6 + 485 * (i + 1) = 6 + 485 * i + 5 + 480 by omega] at h9
      exact h9
  refine j_istore_n hX dX4_init_19 (Nat.le_of_ble_eq_true rfl) rfl ?_
  exact hloop 6 0 _ (by omega) (by omega) P3
set_option maxHeartbeats 1000000 in
theorem c_X3_init : CtJ yX3_init cX3_init 1 2 6 1710 3 3 7 [.null, .null, .null, .null, .null, .null, .int 0] := by
  refine CtJ.mk (by decide +kernel) (by decide) ?_
  intro X b q Po hX hR hZ hAO hb hkd hc hPo
  have hq : q = 210 := (by decide +kernel : ∀ r, r < 248 → kd r = 3 → r = 210) q (kd_lt hkd (by decide)) hkd
  subst hq
  have P0 := Pg.start (ac := xac X) hb hc
  have N0 : b.1 = 211 := hb
  show J X 0 0 0 [some (.ref (b.2.2 210))] [] b
  refine j_aload_n hX dX3_init_0 rfl ?_
  refine j_obj hX ol_X3_3 rfl (by decide) (by decide) dX3_init_1 ?_
  refine j_aload_n hX dX3_init_4 rfl ?_
  refine j_bipush (12) hX dX3_init_5 (by decide) ?_
  refine j_newi (N := 12) hX hZ.2.2 (by decide) (by decide) ⟨by have := hZ.1.1; omega, by have := hZ.1.2; omega⟩ dX3_init_7 ?_
  intro w1 hk1 h1 hc1
  rw [N0] at hc1
  rw [N0]
  have P1 := P0.row1 hk1 h1 (by rw [N0]; exact Dn_i (by decide) (by decide) hc1)
  have N1 : w1.1 = 212 := by omega
  refine j_pput (fun lay => [.ref (lay (211)), .null, .null, .null, .null, .null, .int 0]) P1 pb_X3_9 hX hZ.2.1 rfl rfl (fun _ => Nat.le_of_ble_eq_true rfl) dX3_init_9 (fun lay ha => by rw [← ha (211) (by omega)]; rfl) ?_
  intro w2 h2 P2
  have N2 : w2.1 = 212 := by omega
  refine j_aload_n hX dX3_init_12 rfl ?_
  refine j_bipush (12) hX dX3_init_13 (by decide) ?_
  refine j_newi (N := 12) hX hZ.2.2 (by decide) (by decide) ⟨by have := hZ.1.1; omega, by have := hZ.1.2; omega⟩ dX3_init_15 ?_
  intro w3 hk3 h3 hc3
  rw [N2] at hc3
  rw [N2]
  have P3 := P2.row1 hk3 h3 (by rw [N2]; exact Dn_i (by decide) (by decide) hc3)
  have N3 : w3.1 = 213 := by omega
  refine j_pput (fun lay => [.ref (lay (211)), .ref (lay (212)), .null, .null, .null, .null, .int 0]) P3 pb_X3_15 hX hZ.2.1 rfl rfl (fun _ => Nat.le_of_ble_eq_true rfl) dX3_init_17 (fun lay ha => by rw [← ha (212) (by omega)]; rfl) ?_
  intro w4 h4 P4
  have N4 : w4.1 = 213 := by omega
  refine j_aload_n hX dX3_init_20 rfl ?_
  refine j_sipush (1440) hX dX3_init_21 (by decide) ?_
  refine j_newi (N := 1440) hX hZ.2.2 (by decide) (by decide) ⟨by have := hZ.1.1; omega, by have := hZ.1.2; omega⟩ dX3_init_24 ?_
  intro w5 hk5 h5 hc5
  rw [N4] at hc5
  rw [N4]
  have P5 := P4.row1 hk5 h5 (by rw [N4]; exact Dn_i (by decide) (by decide) hc5)
  have N5 : w5.1 = 214 := by omega
  refine j_pput (fun lay => [.ref (lay (211)), .ref (lay (212)), .ref (lay (213)), .null, .null, .null, .int 0]) P5 pb_X3_18 hX hZ.2.1 rfl rfl (fun _ => Nat.le_of_ble_eq_true rfl) dX3_init_26 (fun lay ha => by rw [← ha (213) (by omega)]; rfl) ?_
  intro w6 h6 P6
  have N6 : w6.1 = 214 := by omega
  refine j_aload_n hX dX3_init_29 rfl ?_
  refine j_bipush (120) hX dX3_init_30 (by decide) ?_
  refine j_newi (N := 120) hX hZ.2.2 (by decide) (by decide) ⟨by have := hZ.1.1; omega, by have := hZ.1.2; omega⟩ dX3_init_32 ?_
  intro w7 hk7 h7 hc7
  rw [N6] at hc7
  rw [N6]
  have P7 := P6.row1 hk7 h7 (by rw [N6]; exact Dn_i (by decide) (by decide) hc7)
  have N7 : w7.1 = 215 := by omega
  refine j_pput (fun lay => [.ref (lay (211)), .ref (lay (212)), .ref (lay (213)), .ref (lay (214)), .null, .null, .int 0]) P7 pb_X3_21 hX hZ.2.1 rfl rfl (fun _ => Nat.le_of_ble_eq_true rfl) dX3_init_34 (fun lay ha => by rw [← ha (214) (by omega)]; rfl) ?_
  intro w8 h8 P8
  have N8 : w8.1 = 215 := by omega
  refine j_aload_n hX dX3_init_37 rfl ?_
  refine j_bipush (120) hX dX3_init_38 (by decide) ?_
  refine j_newi (N := 120) hX hZ.2.2 (by decide) (by decide) ⟨by have := hZ.1.1; omega, by have := hZ.1.2; omega⟩ dX3_init_40 ?_
  intro w9 hk9 h9 hc9
  rw [N8] at hc9
  rw [N8]
  have P9 := P8.row1 hk9 h9 (by rw [N8]; exact Dn_i (by decide) (by decide) hc9)
  have N9 : w9.1 = 216 := by omega
  refine j_pput (fun lay => [.ref (lay (211)), .ref (lay (212)), .ref (lay (213)), .ref (lay (214)), .ref (lay (215)), .null, .int 0]) P9 pb_X3_24 hX hZ.2.1 rfl rfl (fun _ => Nat.le_of_ble_eq_true rfl) dX3_init_42 (fun lay ha => by rw [← ha (215) (by omega)]; rfl) ?_
  intro w10 h10 P10
  have N10 : w10.1 = 216 := by omega
  refine j_aload_n hX dX3_init_45 rfl ?_
  refine j_new (ci := 6) (C := RX6) (T := TX6) (fs := [.int 0, .int 0, .int 0, .int 0, .int 0, .int 0]) tyX6 hX hZ.2.2 rfl inU_X6 tyX6_ok (mw (i := 169) (by decide +kernel) (by decide +kernel)) (mw (i := 170) (by decide +kernel) (by decide +kernel)) ini_X6 (by decide +kernel) ⟨by have := hZ.1.1; omega, by have := hZ.1.2; omega⟩ dX3_init_46 ?_
  intro w11 hk11 h11 hc11
  rw [N10] at hc11
  rw [N10]
  have N11 : w11.1 = 217 := by omega
  refine j_dup hX dX3_init_49 rfl ?_
  refine j_callIN (q := 216) (host := "TermReckoner") hX hAO c_X6_init mi_X6_init (mw (i := 172) (by decide +kernel) (by decide +kernel)) rfl (mn (i := 171) (by decide +kernel) (by decide +kernel)) (by decide) rfl (Nat.le_of_ble_eq_true rfl) ⟨by have := hZ.1.1; omega, by have := hZ.1.2; omega⟩ dX3_init_50 N11 (by decide) hc11 ?_
  intro w12 hk12 h12 hd12
  have P12 := P10.call hk11 (by rw [N10]; exact hk12) (by rw [N10]; exact h12) (by rw [N10]; exact hd12)
  rw [← hk12.2.1 (216) (by omega)]
  have N12 : w12.1 = 217 := by omega
  refine j_pput (fun lay => [.ref (lay (211)), .ref (lay (212)), .ref (lay (213)), .ref (lay (214)), .ref (lay (215)), .ref (lay (216)), .int 0]) P12 pb_X3_30 hX hZ.2.1 rfl rfl (fun _ => Nat.le_of_ble_eq_true rfl) dX3_init_53 (fun lay ha => by rw [← ha (216) (by omega)]; rfl) ?_
  intro w13 h13 P13
  have N13 : w13.1 = 217 := by omega
  refine j_aload_n hX dX3_init_56 rfl ?_
  refine j_iconst (0) hX dX3_init_57 (by decide) ?_
  refine j_pput (fun lay => [.ref (lay (211)), .ref (lay (212)), .ref (lay (213)), .ref (lay (214)), .ref (lay (215)), .ref (lay (216)), .int 0]) P13 pb_X3_34 hX hZ.2.1 rfl rfl (fun _ => Nat.le_of_ble_eq_true rfl) dX3_init_58 (fun _ _ => rfl) ?_
  intro w14 h14 P14
  have N14 : w14.1 = 217 := by omega
  refine j_vret hX hR dX3_init_61 ⟨by omega, by omega⟩ ?_
  exact hPo _ P14.1 N14 (fun r h1 h2 => P14.done (fun lay => (ce_3 hkd).symm) (fun lay hx => absurd rfl hx) r h1 (by omega))
set_option maxHeartbeats 1000000 in
theorem c_X5_init : CtJ yX5_init cX5_init 1 1 3 37 5 5 4 [.null, .int 0, .null, .null] := by
  refine CtJ.mk (by decide +kernel) (by decide) ?_
  intro X b q Po hX hR hZ hAO hb hkd hc hPo
  have hq : q = 217 := (by decide +kernel : ∀ r, r < 248 → kd r = 5 → r = 217) q (kd_lt hkd (by decide)) hkd
  subst hq
  have P0 := Pg.start (ac := xac X) hb hc
  have N0 : b.1 = 218 := hb
  show J X 0 0 0 [some (.ref (b.2.2 217))] [] b
  refine j_aload_n hX dX5_init_0 rfl ?_
  refine j_obj hX ol_X5_3 rfl (by decide) (by decide) dX5_init_1 ?_
  refine j_aload_n hX dX5_init_4 rfl ?_
  refine j_bipush (12) hX dX5_init_5 (by decide) ?_
  refine j_newi (N := 12) hX hZ.2.2 (by decide) (by decide) ⟨by have := hZ.1.1; omega, by have := hZ.1.2; omega⟩ dX5_init_7 ?_
  intro w1 hk1 h1 hc1
  rw [N0] at hc1
  rw [N0]
  have P1 := P0.row1 hk1 h1 (by rw [N0]; exact Dn_i (by decide) (by decide) hc1)
  have N1 : w1.1 = 219 := by omega
  refine j_pput (fun lay => [.ref (lay (218)), .int 0, .null, .null]) P1 pb_X5_9 hX hZ.2.1 rfl rfl (fun _ => Nat.le_of_ble_eq_true rfl) dX5_init_9 (fun lay ha => by rw [← ha (218) (by omega)]; rfl) ?_
  intro w2 h2 P2
  have N2 : w2.1 = 219 := by omega
  refine j_aload_n hX dX5_init_12 rfl ?_
  refine j_iconst (0) hX dX5_init_13 (by decide) ?_
  refine j_pput (fun lay => [.ref (lay (218)), .int 0, .null, .null]) P2 pb_X5_15 hX hZ.2.1 rfl rfl (fun _ => Nat.le_of_ble_eq_true rfl) dX5_init_14 (fun _ _ => rfl) ?_
  intro w3 h3 P3
  have N3 : w3.1 = 219 := by omega
  refine j_aload_n hX dX5_init_17 rfl ?_
  refine j_bipush (12) hX dX5_init_18 (by decide) ?_
  refine j_newi (N := 12) hX hZ.2.2 (by decide) (by decide) ⟨by have := hZ.1.1; omega, by have := hZ.1.2; omega⟩ dX5_init_20 ?_
  intro w4 hk4 h4 hc4
  rw [N3] at hc4
  rw [N3]
  have P4 := P3.row1 hk4 h4 (by rw [N3]; exact Dn_i (by decide) (by decide) hc4)
  have N4 : w4.1 = 220 := by omega
  refine j_pput (fun lay => [.ref (lay (218)), .int 0, .ref (lay (219)), .null]) P4 pb_X5_19 hX hZ.2.1 rfl rfl (fun _ => Nat.le_of_ble_eq_true rfl) dX5_init_22 (fun lay ha => by rw [← ha (219) (by omega)]; rfl) ?_
  intro w5 h5 P5
  have N5 : w5.1 = 220 := by omega
  refine j_aload_n hX dX5_init_25 rfl ?_
  refine j_bipush (13) hX dX5_init_26 (by decide) ?_
  refine j_newi (N := 13) hX hZ.2.2 (by decide) (by decide) ⟨by have := hZ.1.1; omega, by have := hZ.1.2; omega⟩ dX5_init_28 ?_
  intro w6 hk6 h6 hc6
  rw [N5] at hc6
  rw [N5]
  have P6 := P5.row1 hk6 h6 (by rw [N5]; exact Dn_i (by decide) (by decide) hc6)
  have N6 : w6.1 = 221 := by omega
  refine j_pput (fun lay => [.ref (lay (218)), .int 0, .ref (lay (219)), .ref (lay (220))]) P6 pb_X5_22 hX hZ.2.1 rfl rfl (fun _ => Nat.le_of_ble_eq_true rfl) dX5_init_30 (fun lay ha => by rw [← ha (220) (by omega)]; rfl) ?_
  intro w7 h7 P7
  have N7 : w7.1 = 221 := by omega
  refine j_vret hX hR dX5_init_33 ⟨by omega, by omega⟩ ?_
  exact hPo _ P7.1 N7 (fun r h1 h2 => P7.done (fun lay => (ce_5 hkd).symm) (fun lay hx => absurd rfl hx) r h1 (by omega))
set_option maxHeartbeats 1000000 in
theorem c_X8_init : CtJ yX8_init cX8_init 1 1 26 157164 8 8 27 [.int 0, .int 0, .int 0, .null, .null, .int 0, .null, .null, .null, .null, .null, .null, .null, .null, .null, .int 0, .null, .null, .null, .null, .null, .null, .null, .null, .null, .null, .null, .null, .null, .null, .int 0, .null, .int 0] := by
  refine CtJ.mk (by decide +kernel) (by decide) ?_
  intro X b q Po hX hR hZ hAO hb hkd hc hPo
  have hq : q = 221 := (by decide +kernel : ∀ r, r < 248 → kd r = 8 → r = 221) q (kd_lt hkd (by decide)) hkd
  subst hq
  have P0 := Pg.start (ac := xac X) hb hc
  have N0 : b.1 = 222 := hb
  show J X 0 0 0 [some (.ref (b.2.2 221))] [] b
  refine j_aload_n hX dX8_init_0 rfl ?_
  refine j_obj hX ol_X8_1 rfl (by decide) (by decide) dX8_init_1 ?_
  refine j_aload_n hX dX8_init_4 rfl ?_
  refine j_iconst (-1) hX dX8_init_5 (by decide) ?_
  refine j_pput (fun lay => [.int 0, .int (-1), .int 0, .null, .null, .int 0, .null, .null, .null, .null, .null, .null, .null, .null, .null, .int 0, .null, .null, .null, .null, .null, .null, .null, .null, .null, .null, .null, .null, .null, .null, .int 0, .null, .int 0]) P0 pb_X8_9 hX hZ.2.1 rfl rfl (fun _ => Nat.le_of_ble_eq_true rfl) dX8_init_6 (fun _ _ => rfl) ?_
  intro w1 h1 P1
  have N1 : w1.1 = 222 := by omega
  refine j_aload_n hX dX8_init_9 rfl ?_
  refine j_sipush (3200) hX dX8_init_10 (by decide) ?_
  refine j_newi (N := 3200) hX hZ.2.2 (by decide) (by decide) ⟨by have := hZ.1.1; omega, by have := hZ.1.2; omega⟩ dX8_init_13 ?_
  intro w2 hk2 h2 hc2
  rw [N1] at hc2
  rw [N1]
  have P2 := P1.row1 hk2 h2 (by rw [N1]; exact Dn_i (by decide) (by decide) hc2)
  have N2 : w2.1 = 223 := by omega
  refine j_pput (fun lay => [.int 0, .int (-1), .int 0, .ref (lay (222)), .null, .int 0, .null, .null, .null, .null, .null, .null, .null, .null, .null, .int 0, .null, .null, .null, .null, .null, .null, .null, .null, .null, .null, .null, .null, .null, .null, .int 0, .null, .int 0]) P2 pb_X8_13 hX hZ.2.1 rfl rfl (fun _ => Nat.le_of_ble_eq_true rfl) dX8_init_15 (fun lay ha => by rw [← ha (222) (by omega)]; rfl) ?_
  intro w3 h3 P3
  have N3 : w3.1 = 223 := by omega
  refine j_aload_n hX dX8_init_18 rfl ?_
  refine j_sipush (400) hX dX8_init_19 (by decide) ?_
  refine j_newi (N := 400) hX hZ.2.2 (by decide) (by decide) ⟨by have := hZ.1.1; omega, by have := hZ.1.2; omega⟩ dX8_init_22 ?_
  intro w4 hk4 h4 hc4
  rw [N3] at hc4
  rw [N3]
  have P4 := P3.row1 hk4 h4 (by rw [N3]; exact Dn_i (by decide) (by decide) hc4)
  have N4 : w4.1 = 224 := by omega
  refine j_pput (fun lay => [.int 0, .int (-1), .int 0, .ref (lay (222)), .ref (lay (223)), .int 0, .null, .null, .null, .null, .null, .null, .null, .null, .null, .int 0, .null, .null, .null, .null, .null, .null, .null, .null, .null, .null, .null, .null, .null, .null, .int 0, .null, .int 0]) P4 pb_X8_17 hX hZ.2.1 rfl rfl (fun _ => Nat.le_of_ble_eq_true rfl) dX8_init_24 (fun lay ha => by rw [← ha (223) (by omega)]; rfl) ?_
  intro w5 h5 P5
  have N5 : w5.1 = 224 := by omega
  refine j_aload_n hX dX8_init_27 rfl ?_
  refine j_bipush (12) hX dX8_init_28 (by decide) ?_
  refine j_newi (N := 12) hX hZ.2.2 (by decide) (by decide) ⟨by have := hZ.1.1; omega, by have := hZ.1.2; omega⟩ dX8_init_30 ?_
  intro w6 hk6 h6 hc6
  rw [N5] at hc6
  rw [N5]
  have P6 := P5.row1 hk6 h6 (by rw [N5]; exact Dn_i (by decide) (by decide) hc6)
  have N6 : w6.1 = 225 := by omega
  refine j_pput (fun lay => [.int 0, .int (-1), .int 0, .ref (lay (222)), .ref (lay (223)), .int 0, .ref (lay (224)), .null, .null, .null, .null, .null, .null, .null, .null, .int 0, .null, .null, .null, .null, .null, .null, .null, .null, .null, .null, .null, .null, .null, .null, .int 0, .null, .int 0]) P6 pb_X8_20 hX hZ.2.1 rfl rfl (fun _ => Nat.le_of_ble_eq_true rfl) dX8_init_32 (fun lay ha => by rw [← ha (224) (by omega)]; rfl) ?_
  intro w7 h7 P7
  have N7 : w7.1 = 225 := by omega
  refine j_aload_n hX dX8_init_35 rfl ?_
  refine j_bipush (12) hX dX8_init_36 (by decide) ?_
  refine j_newi (N := 12) hX hZ.2.2 (by decide) (by decide) ⟨by have := hZ.1.1; omega, by have := hZ.1.2; omega⟩ dX8_init_38 ?_
  intro w8 hk8 h8 hc8
  rw [N7] at hc8
  rw [N7]
  have P8 := P7.row1 hk8 h8 (by rw [N7]; exact Dn_i (by decide) (by decide) hc8)
  have N8 : w8.1 = 226 := by omega
  refine j_pput (fun lay => [.int 0, .int (-1), .int 0, .ref (lay (222)), .ref (lay (223)), .int 0, .ref (lay (224)), .ref (lay (225)), .null, .null, .null, .null, .null, .null, .null, .int 0, .null, .null, .null, .null, .null, .null, .null, .null, .null, .null, .null, .null, .null, .null, .int 0, .null, .int 0]) P8 pb_X8_23 hX hZ.2.1 rfl rfl (fun _ => Nat.le_of_ble_eq_true rfl) dX8_init_40 (fun lay ha => by rw [← ha (225) (by omega)]; rfl) ?_
  intro w9 h9 P9
  have N9 : w9.1 = 226 := by omega
  refine j_aload_n hX dX8_init_43 rfl ?_
  refine j_bipush (12) hX dX8_init_44 (by decide) ?_
  refine j_newi (N := 12) hX hZ.2.2 (by decide) (by decide) ⟨by have := hZ.1.1; omega, by have := hZ.1.2; omega⟩ dX8_init_46 ?_
  intro w10 hk10 h10 hc10
  rw [N9] at hc10
  rw [N9]
  have P10 := P9.row1 hk10 h10 (by rw [N9]; exact Dn_i (by decide) (by decide) hc10)
  have N10 : w10.1 = 227 := by omega
  refine j_pput (fun lay => [.int 0, .int (-1), .int 0, .ref (lay (222)), .ref (lay (223)), .int 0, .ref (lay (224)), .ref (lay (225)), .ref (lay (226)), .null, .null, .null, .null, .null, .null, .int 0, .null, .null, .null, .null, .null, .null, .null, .null, .null, .null, .null, .null, .null, .null, .int 0, .null, .int 0]) P10 pb_X8_26 hX hZ.2.1 rfl rfl (fun _ => Nat.le_of_ble_eq_true rfl) dX8_init_48 (fun lay ha => by rw [← ha (226) (by omega)]; rfl) ?_
  intro w11 h11 P11
  have N11 : w11.1 = 227 := by omega
  refine j_aload_n hX dX8_init_51 rfl ?_
  refine j_bipush (12) hX dX8_init_52 (by decide) ?_
  refine j_newi (N := 12) hX hZ.2.2 (by decide) (by decide) ⟨by have := hZ.1.1; omega, by have := hZ.1.2; omega⟩ dX8_init_54 ?_
  intro w12 hk12 h12 hc12
  rw [N11] at hc12
  rw [N11]
  have P12 := P11.row1 hk12 h12 (by rw [N11]; exact Dn_i (by decide) (by decide) hc12)
  have N12 : w12.1 = 228 := by omega
  refine j_pput (fun lay => [.int 0, .int (-1), .int 0, .ref (lay (222)), .ref (lay (223)), .int 0, .ref (lay (224)), .ref (lay (225)), .ref (lay (226)), .ref (lay (227)), .null, .null, .null, .null, .null, .int 0, .null, .null, .null, .null, .null, .null, .null, .null, .null, .null, .null, .null, .null, .null, .int 0, .null, .int 0]) P12 pb_X8_29 hX hZ.2.1 rfl rfl (fun _ => Nat.le_of_ble_eq_true rfl) dX8_init_56 (fun lay ha => by rw [← ha (227) (by omega)]; rfl) ?_
  intro w13 h13 P13
  have N13 : w13.1 = 228 := by omega
  refine j_aload_n hX dX8_init_59 rfl ?_
  refine j_bipush (12) hX dX8_init_60 (by decide) ?_
  refine j_newi (N := 12) hX hZ.2.2 (by decide) (by decide) ⟨by have := hZ.1.1; omega, by have := hZ.1.2; omega⟩ dX8_init_62 ?_
  intro w14 hk14 h14 hc14
  rw [N13] at hc14
  rw [N13]
  have P14 := P13.row1 hk14 h14 (by rw [N13]; exact Dn_i (by decide) (by decide) hc14)
  have N14 : w14.1 = 229 := by omega
  refine j_pput (fun lay => [.int 0, .int (-1), .int 0, .ref (lay (222)), .ref (lay (223)), .int 0, .ref (lay (224)), .ref (lay (225)), .ref (lay (226)), .ref (lay (227)), .ref (lay (228)), .null, .null, .null, .null, .int 0, .null, .null, .null, .null, .null, .null, .null, .null, .null, .null, .null, .null, .null, .null, .int 0, .null, .int 0]) P14 pb_X8_32 hX hZ.2.1 rfl rfl (fun _ => Nat.le_of_ble_eq_true rfl) dX8_init_64 (fun lay ha => by rw [← ha (228) (by omega)]; rfl) ?_
  intro w15 h15 P15
  have N15 : w15.1 = 229 := by omega
  refine j_aload_n hX dX8_init_67 rfl ?_
  refine j_bipush (12) hX dX8_init_68 (by decide) ?_
  refine j_newi (N := 12) hX hZ.2.2 (by decide) (by decide) ⟨by have := hZ.1.1; omega, by have := hZ.1.2; omega⟩ dX8_init_70 ?_
  intro w16 hk16 h16 hc16
  rw [N15] at hc16
  rw [N15]
  have P16 := P15.row1 hk16 h16 (by rw [N15]; exact Dn_i (by decide) (by decide) hc16)
  have N16 : w16.1 = 230 := by omega
  refine j_pput (fun lay => [.int 0, .int (-1), .int 0, .ref (lay (222)), .ref (lay (223)), .int 0, .ref (lay (224)), .ref (lay (225)), .ref (lay (226)), .ref (lay (227)), .ref (lay (228)), .ref (lay (229)), .null, .null, .null, .int 0, .null, .null, .null, .null, .null, .null, .null, .null, .null, .null, .null, .null, .null, .null, .int 0, .null, .int 0]) P16 pb_X8_35 hX hZ.2.1 rfl rfl (fun _ => Nat.le_of_ble_eq_true rfl) dX8_init_72 (fun lay ha => by rw [← ha (229) (by omega)]; rfl) ?_
  intro w17 h17 P17
  have N17 : w17.1 = 230 := by omega
  refine j_aload_n hX dX8_init_75 rfl ?_
  refine j_bipush (12) hX dX8_init_76 (by decide) ?_
  refine j_newi (N := 12) hX hZ.2.2 (by decide) (by decide) ⟨by have := hZ.1.1; omega, by have := hZ.1.2; omega⟩ dX8_init_78 ?_
  intro w18 hk18 h18 hc18
  rw [N17] at hc18
  rw [N17]
  have P18 := P17.row1 hk18 h18 (by rw [N17]; exact Dn_i (by decide) (by decide) hc18)
  have N18 : w18.1 = 231 := by omega
  refine j_pput (fun lay => [.int 0, .int (-1), .int 0, .ref (lay (222)), .ref (lay (223)), .int 0, .ref (lay (224)), .ref (lay (225)), .ref (lay (226)), .ref (lay (227)), .ref (lay (228)), .ref (lay (229)), .ref (lay (230)), .null, .null, .int 0, .null, .null, .null, .null, .null, .null, .null, .null, .null, .null, .null, .null, .null, .null, .int 0, .null, .int 0]) P18 pb_X8_38 hX hZ.2.1 rfl rfl (fun _ => Nat.le_of_ble_eq_true rfl) dX8_init_80 (fun lay ha => by rw [← ha (230) (by omega)]; rfl) ?_
  intro w19 h19 P19
  have N19 : w19.1 = 231 := by omega
  refine j_aload_n hX dX8_init_83 rfl ?_
  refine j_bipush (12) hX dX8_init_84 (by decide) ?_
  refine j_newi (N := 12) hX hZ.2.2 (by decide) (by decide) ⟨by have := hZ.1.1; omega, by have := hZ.1.2; omega⟩ dX8_init_86 ?_
  intro w20 hk20 h20 hc20
  rw [N19] at hc20
  rw [N19]
  have P20 := P19.row1 hk20 h20 (by rw [N19]; exact Dn_i (by decide) (by decide) hc20)
  have N20 : w20.1 = 232 := by omega
  refine j_pput (fun lay => [.int 0, .int (-1), .int 0, .ref (lay (222)), .ref (lay (223)), .int 0, .ref (lay (224)), .ref (lay (225)), .ref (lay (226)), .ref (lay (227)), .ref (lay (228)), .ref (lay (229)), .ref (lay (230)), .ref (lay (231)), .null, .int 0, .null, .null, .null, .null, .null, .null, .null, .null, .null, .null, .null, .null, .null, .null, .int 0, .null, .int 0]) P20 pb_X8_41 hX hZ.2.1 rfl rfl (fun _ => Nat.le_of_ble_eq_true rfl) dX8_init_88 (fun lay ha => by rw [← ha (231) (by omega)]; rfl) ?_
  intro w21 h21 P21
  have N21 : w21.1 = 232 := by omega
  refine j_aload_n hX dX8_init_91 rfl ?_
  refine j_bipush (12) hX dX8_init_92 (by decide) ?_
  refine j_newi (N := 12) hX hZ.2.2 (by decide) (by decide) ⟨by have := hZ.1.1; omega, by have := hZ.1.2; omega⟩ dX8_init_94 ?_
  intro w22 hk22 h22 hc22
  rw [N21] at hc22
  rw [N21]
  have P22 := P21.row1 hk22 h22 (by rw [N21]; exact Dn_i (by decide) (by decide) hc22)
  have N22 : w22.1 = 233 := by omega
  refine j_pput (fun lay => [.int 0, .int (-1), .int 0, .ref (lay (222)), .ref (lay (223)), .int 0, .ref (lay (224)), .ref (lay (225)), .ref (lay (226)), .ref (lay (227)), .ref (lay (228)), .ref (lay (229)), .ref (lay (230)), .ref (lay (231)), .ref (lay (232)), .int 0, .null, .null, .null, .null, .null, .null, .null, .null, .null, .null, .null, .null, .null, .null, .int 0, .null, .int 0]) P22 pb_X8_44 hX hZ.2.1 rfl rfl (fun _ => Nat.le_of_ble_eq_true rfl) dX8_init_96 (fun lay ha => by rw [← ha (232) (by omega)]; rfl) ?_
  intro w23 h23 P23
  have N23 : w23.1 = 233 := by omega
  refine j_aload_n hX dX8_init_99 rfl ?_
  refine j_sipush (720) hX dX8_init_100 (by decide) ?_
  refine j_newi (N := 720) hX hZ.2.2 (by decide) (by decide) ⟨by have := hZ.1.1; omega, by have := hZ.1.2; omega⟩ dX8_init_103 ?_
  intro w24 hk24 h24 hc24
  rw [N23] at hc24
  rw [N23]
  have P24 := P23.row1 hk24 h24 (by rw [N23]; exact Dn_i (by decide) (by decide) hc24)
  have N24 : w24.1 = 234 := by omega
  refine j_pput (fun lay => [.int 0, .int (-1), .int 0, .ref (lay (222)), .ref (lay (223)), .int 0, .ref (lay (224)), .ref (lay (225)), .ref (lay (226)), .ref (lay (227)), .ref (lay (228)), .ref (lay (229)), .ref (lay (230)), .ref (lay (231)), .ref (lay (232)), .int 0, .ref (lay (233)), .null, .null, .null, .null, .null, .null, .null, .null, .null, .null, .null, .null, .null, .int 0, .null, .int 0]) P24 pb_X8_47 hX hZ.2.1 rfl rfl (fun _ => Nat.le_of_ble_eq_true rfl) dX8_init_105 (fun lay ha => by rw [← ha (233) (by omega)]; rfl) ?_
  intro w25 h25 P25
  have N25 : w25.1 = 234 := by omega
  refine j_aload_n hX dX8_init_108 rfl ?_
  refine j_sipush (720) hX dX8_init_109 (by decide) ?_
  refine j_newz (N := 720) hX hZ.2.2 (by decide) (by decide) ⟨by have := hZ.1.1; omega, by have := hZ.1.2; omega⟩ dX8_init_112 ?_
  intro w26 hk26 h26 hc26
  rw [N25] at hc26
  rw [N25]
  have P26 := P25.row1 hk26 h26 (by rw [N25]; exact Dn_z (by decide) (by decide) hc26)
  have N26 : w26.1 = 235 := by omega
  refine j_pput (fun lay => [.int 0, .int (-1), .int 0, .ref (lay (222)), .ref (lay (223)), .int 0, .ref (lay (224)), .ref (lay (225)), .ref (lay (226)), .ref (lay (227)), .ref (lay (228)), .ref (lay (229)), .ref (lay (230)), .ref (lay (231)), .ref (lay (232)), .int 0, .ref (lay (233)), .ref (lay (234)), .null, .null, .null, .null, .null, .null, .null, .null, .null, .null, .null, .null, .int 0, .null, .int 0]) P26 pb_X8_50 hX hZ.2.1 rfl rfl (fun _ => Nat.le_of_ble_eq_true rfl) dX8_init_114 (fun lay ha => by rw [← ha (234) (by omega)]; rfl) ?_
  intro w27 h27 P27
  have N27 : w27.1 = 235 := by omega
  refine j_aload_n hX dX8_init_117 rfl ?_
  refine j_sipush (720) hX dX8_init_118 (by decide) ?_
  refine j_newi (N := 720) hX hZ.2.2 (by decide) (by decide) ⟨by have := hZ.1.1; omega, by have := hZ.1.2; omega⟩ dX8_init_121 ?_
  intro w28 hk28 h28 hc28
  rw [N27] at hc28
  rw [N27]
  have P28 := P27.row1 hk28 h28 (by rw [N27]; exact Dn_i (by decide) (by decide) hc28)
  have N28 : w28.1 = 236 := by omega
  refine j_pput (fun lay => [.int 0, .int (-1), .int 0, .ref (lay (222)), .ref (lay (223)), .int 0, .ref (lay (224)), .ref (lay (225)), .ref (lay (226)), .ref (lay (227)), .ref (lay (228)), .ref (lay (229)), .ref (lay (230)), .ref (lay (231)), .ref (lay (232)), .int 0, .ref (lay (233)), .ref (lay (234)), .ref (lay (235)), .null, .null, .null, .null, .null, .null, .null, .null, .null, .null, .null, .int 0, .null, .int 0]) P28 pb_X8_54 hX hZ.2.1 rfl rfl (fun _ => Nat.le_of_ble_eq_true rfl) dX8_init_123 (fun lay ha => by rw [← ha (235) (by omega)]; rfl) ?_
  intro w29 h29 P29
  have N29 : w29.1 = 236 := by omega
  refine j_aload_n hX dX8_init_126 rfl ?_
  refine j_sipush (21600) hX dX8_init_127 (by decide) ?_
  refine j_newi (N := 21600) hX hZ.2.2 (by decide) (by decide) ⟨by have := hZ.1.1; omega, by have := hZ.1.2; omega⟩ dX8_init_130 ?_
  intro w30 hk30 h30 hc30
  rw [N29] at hc30
  rw [N29]
  have P30 := P29.row1 hk30 h30 (by rw [N29]; exact Dn_i (by decide) (by decide) hc30)
  have N30 : w30.1 = 237 := by omega
  refine j_pput (fun lay => [.int 0, .int (-1), .int 0, .ref (lay (222)), .ref (lay (223)), .int 0, .ref (lay (224)), .ref (lay (225)), .ref (lay (226)), .ref (lay (227)), .ref (lay (228)), .ref (lay (229)), .ref (lay (230)), .ref (lay (231)), .ref (lay (232)), .int 0, .ref (lay (233)), .ref (lay (234)), .ref (lay (235)), .ref (lay (236)), .null, .null, .null, .null, .null, .null, .null, .null, .null, .null, .int 0, .null, .int 0]) P30 pb_X8_57 hX hZ.2.1 rfl rfl (fun _ => Nat.le_of_ble_eq_true rfl) dX8_init_132 (fun lay ha => by rw [← ha (236) (by omega)]; rfl) ?_
  intro w31 h31 P31
  have N31 : w31.1 = 237 := by omega
  refine j_aload_n hX dX8_init_135 rfl ?_
  refine j_bipush (12) hX dX8_init_136 (by decide) ?_
  refine j_newz (N := 12) hX hZ.2.2 (by decide) (by decide) ⟨by have := hZ.1.1; omega, by have := hZ.1.2; omega⟩ dX8_init_138 ?_
  intro w32 hk32 h32 hc32
  rw [N31] at hc32
  rw [N31]
  have P32 := P31.row1 hk32 h32 (by rw [N31]; exact Dn_z (by decide) (by decide) hc32)
  have N32 : w32.1 = 238 := by omega
  refine j_pput (fun lay => [.int 0, .int (-1), .int 0, .ref (lay (222)), .ref (lay (223)), .int 0, .ref (lay (224)), .ref (lay (225)), .ref (lay (226)), .ref (lay (227)), .ref (lay (228)), .ref (lay (229)), .ref (lay (230)), .ref (lay (231)), .ref (lay (232)), .int 0, .ref (lay (233)), .ref (lay (234)), .ref (lay (235)), .ref (lay (236)), .ref (lay (237)), .null, .null, .null, .null, .null, .null, .null, .null, .null, .int 0, .null, .int 0]) P32 pb_X8_60 hX hZ.2.1 rfl rfl (fun _ => Nat.le_of_ble_eq_true rfl) dX8_init_140 (fun lay ha => by rw [← ha (237) (by omega)]; rfl) ?_
  intro w33 h33 P33
  have N33 : w33.1 = 238 := by omega
  refine j_aload_n hX dX8_init_143 rfl ?_
  refine j_bipush (12) hX dX8_init_144 (by decide) ?_
  refine j_newi (N := 12) hX hZ.2.2 (by decide) (by decide) ⟨by have := hZ.1.1; omega, by have := hZ.1.2; omega⟩ dX8_init_146 ?_
  intro w34 hk34 h34 hc34
  rw [N33] at hc34
  rw [N33]
  have P34 := P33.row1 hk34 h34 (by rw [N33]; exact Dn_i (by decide) (by decide) hc34)
  have N34 : w34.1 = 239 := by omega
  refine j_pput (fun lay => [.int 0, .int (-1), .int 0, .ref (lay (222)), .ref (lay (223)), .int 0, .ref (lay (224)), .ref (lay (225)), .ref (lay (226)), .ref (lay (227)), .ref (lay (228)), .ref (lay (229)), .ref (lay (230)), .ref (lay (231)), .ref (lay (232)), .int 0, .ref (lay (233)), .ref (lay (234)), .ref (lay (235)), .ref (lay (236)), .ref (lay (237)), .ref (lay (238)), .null, .null, .null, .null, .null, .null, .null, .null, .int 0, .null, .int 0]) P34 pb_X8_63 hX hZ.2.1 rfl rfl (fun _ => Nat.le_of_ble_eq_true rfl) dX8_init_148 (fun lay ha => by rw [← ha (238) (by omega)]; rfl) ?_
  intro w35 h35 P35
  have N35 : w35.1 = 239 := by omega
  refine j_aload_n hX dX8_init_151 rfl ?_
  refine j_bipush (12) hX dX8_init_152 (by decide) ?_
  refine j_newi (N := 12) hX hZ.2.2 (by decide) (by decide) ⟨by have := hZ.1.1; omega, by have := hZ.1.2; omega⟩ dX8_init_154 ?_
  intro w36 hk36 h36 hc36
  rw [N35] at hc36
  rw [N35]
  have P36 := P35.row1 hk36 h36 (by rw [N35]; exact Dn_i (by decide) (by decide) hc36)
  have N36 : w36.1 = 240 := by omega
  refine j_pput (fun lay => [.int 0, .int (-1), .int 0, .ref (lay (222)), .ref (lay (223)), .int 0, .ref (lay (224)), .ref (lay (225)), .ref (lay (226)), .ref (lay (227)), .ref (lay (228)), .ref (lay (229)), .ref (lay (230)), .ref (lay (231)), .ref (lay (232)), .int 0, .ref (lay (233)), .ref (lay (234)), .ref (lay (235)), .ref (lay (236)), .ref (lay (237)), .ref (lay (238)), .ref (lay (239)), .null, .null, .null, .null, .null, .null, .null, .int 0, .null, .int 0]) P36 pb_X8_66 hX hZ.2.1 rfl rfl (fun _ => Nat.le_of_ble_eq_true rfl) dX8_init_156 (fun lay ha => by rw [← ha (239) (by omega)]; rfl) ?_
  intro w37 h37 P37
  have N37 : w37.1 = 240 := by omega
  refine j_aload_n hX dX8_init_159 rfl ?_
  refine j_ldc (v := 43200) hX dX8_init_160 (mw (i := 802) (by decide +kernel) (by decide +kernel)) ?_
  refine j_newz (N := 43200) hX hZ.2.2 (by decide) (by decide) ⟨by have := hZ.1.1; omega, by have := hZ.1.2; omega⟩ dX8_init_162 ?_
  intro w38 hk38 h38 hc38
  rw [N37] at hc38
  rw [N37]
  have P38 := P37.row1 hk38 h38 (by rw [N37]; exact Dn_z (by decide) (by decide) hc38)
  have N38 : w38.1 = 241 := by omega
  refine j_pput (fun lay => [.int 0, .int (-1), .int 0, .ref (lay (222)), .ref (lay (223)), .int 0, .ref (lay (224)), .ref (lay (225)), .ref (lay (226)), .ref (lay (227)), .ref (lay (228)), .ref (lay (229)), .ref (lay (230)), .ref (lay (231)), .ref (lay (232)), .int 0, .ref (lay (233)), .ref (lay (234)), .ref (lay (235)), .ref (lay (236)), .ref (lay (237)), .ref (lay (238)), .ref (lay (239)), .ref (lay (240)), .null, .null, .null, .null, .null, .null, .int 0, .null, .int 0]) P38 pb_X8_70 hX hZ.2.1 rfl rfl (fun _ => Nat.le_of_ble_eq_true rfl) dX8_init_164 (fun lay ha => by rw [← ha (240) (by omega)]; rfl) ?_
  intro w39 h39 P39
  have N39 : w39.1 = 241 := by omega
  refine j_aload_n hX dX8_init_167 rfl ?_
  refine j_ldc (v := 43200) hX dX8_init_168 (mw (i := 802) (by decide +kernel) (by decide +kernel)) ?_
  refine j_newi (N := 43200) hX hZ.2.2 (by decide) (by decide) ⟨by have := hZ.1.1; omega, by have := hZ.1.2; omega⟩ dX8_init_170 ?_
  intro w40 hk40 h40 hc40
  rw [N39] at hc40
  rw [N39]
  have P40 := P39.row1 hk40 h40 (by rw [N39]; exact Dn_i (by decide) (by decide) hc40)
  have N40 : w40.1 = 242 := by omega
  refine j_pput (fun lay => [.int 0, .int (-1), .int 0, .ref (lay (222)), .ref (lay (223)), .int 0, .ref (lay (224)), .ref (lay (225)), .ref (lay (226)), .ref (lay (227)), .ref (lay (228)), .ref (lay (229)), .ref (lay (230)), .ref (lay (231)), .ref (lay (232)), .int 0, .ref (lay (233)), .ref (lay (234)), .ref (lay (235)), .ref (lay (236)), .ref (lay (237)), .ref (lay (238)), .ref (lay (239)), .ref (lay (240)), .ref (lay (241)), .null, .null, .null, .null, .null, .int 0, .null, .int 0]) P40 pb_X8_73 hX hZ.2.1 rfl rfl (fun _ => Nat.le_of_ble_eq_true rfl) dX8_init_172 (fun lay ha => by rw [← ha (241) (by omega)]; rfl) ?_
  intro w41 h41 P41
  have N41 : w41.1 = 242 := by omega
  refine j_aload_n hX dX8_init_175 rfl ?_
  refine j_ldc (v := 43200) hX dX8_init_176 (mw (i := 802) (by decide +kernel) (by decide +kernel)) ?_
  refine j_newi (N := 43200) hX hZ.2.2 (by decide) (by decide) ⟨by have := hZ.1.1; omega, by have := hZ.1.2; omega⟩ dX8_init_178 ?_
  intro w42 hk42 h42 hc42
  rw [N41] at hc42
  rw [N41]
  have P42 := P41.row1 hk42 h42 (by rw [N41]; exact Dn_i (by decide) (by decide) hc42)
  have N42 : w42.1 = 243 := by omega
  refine j_pput (fun lay => [.int 0, .int (-1), .int 0, .ref (lay (222)), .ref (lay (223)), .int 0, .ref (lay (224)), .ref (lay (225)), .ref (lay (226)), .ref (lay (227)), .ref (lay (228)), .ref (lay (229)), .ref (lay (230)), .ref (lay (231)), .ref (lay (232)), .int 0, .ref (lay (233)), .ref (lay (234)), .ref (lay (235)), .ref (lay (236)), .ref (lay (237)), .ref (lay (238)), .ref (lay (239)), .ref (lay (240)), .ref (lay (241)), .ref (lay (242)), .null, .null, .null, .null, .int 0, .null, .int 0]) P42 pb_X8_76 hX hZ.2.1 rfl rfl (fun _ => Nat.le_of_ble_eq_true rfl) dX8_init_180 (fun lay ha => by rw [← ha (242) (by omega)]; rfl) ?_
  intro w43 h43 P43
  have N43 : w43.1 = 243 := by omega
  refine j_aload_n hX dX8_init_183 rfl ?_
  refine j_bipush (12) hX dX8_init_184 (by decide) ?_
  refine j_newi (N := 12) hX hZ.2.2 (by decide) (by decide) ⟨by have := hZ.1.1; omega, by have := hZ.1.2; omega⟩ dX8_init_186 ?_
  intro w44 hk44 h44 hc44
  rw [N43] at hc44
  rw [N43]
  have P44 := P43.row1 hk44 h44 (by rw [N43]; exact Dn_i (by decide) (by decide) hc44)
  have N44 : w44.1 = 244 := by omega
  refine j_pput (fun lay => [.int 0, .int (-1), .int 0, .ref (lay (222)), .ref (lay (223)), .int 0, .ref (lay (224)), .ref (lay (225)), .ref (lay (226)), .ref (lay (227)), .ref (lay (228)), .ref (lay (229)), .ref (lay (230)), .ref (lay (231)), .ref (lay (232)), .int 0, .ref (lay (233)), .ref (lay (234)), .ref (lay (235)), .ref (lay (236)), .ref (lay (237)), .ref (lay (238)), .ref (lay (239)), .ref (lay (240)), .ref (lay (241)), .ref (lay (242)), .ref (lay (243)), .null, .null, .null, .int 0, .null, .int 0]) P44 pb_X8_79 hX hZ.2.1 rfl rfl (fun _ => Nat.le_of_ble_eq_true rfl) dX8_init_188 (fun lay ha => by rw [← ha (243) (by omega)]; rfl) ?_
  intro w45 h45 P45
  have N45 : w45.1 = 244 := by omega
  refine j_aload_n hX dX8_init_191 rfl ?_
  refine j_bipush (12) hX dX8_init_192 (by decide) ?_
  refine j_newi (N := 12) hX hZ.2.2 (by decide) (by decide) ⟨by have := hZ.1.1; omega, by have := hZ.1.2; omega⟩ dX8_init_194 ?_
  intro w46 hk46 h46 hc46
  rw [N45] at hc46
  rw [N45]
  have P46 := P45.row1 hk46 h46 (by rw [N45]; exact Dn_i (by decide) (by decide) hc46)
  have N46 : w46.1 = 245 := by omega
  refine j_pput (fun lay => [.int 0, .int (-1), .int 0, .ref (lay (222)), .ref (lay (223)), .int 0, .ref (lay (224)), .ref (lay (225)), .ref (lay (226)), .ref (lay (227)), .ref (lay (228)), .ref (lay (229)), .ref (lay (230)), .ref (lay (231)), .ref (lay (232)), .int 0, .ref (lay (233)), .ref (lay (234)), .ref (lay (235)), .ref (lay (236)), .ref (lay (237)), .ref (lay (238)), .ref (lay (239)), .ref (lay (240)), .ref (lay (241)), .ref (lay (242)), .ref (lay (243)), .ref (lay (244)), .null, .null, .int 0, .null, .int 0]) P46 pb_X8_82 hX hZ.2.1 rfl rfl (fun _ => Nat.le_of_ble_eq_true rfl) dX8_init_196 (fun lay ha => by rw [← ha (244) (by omega)]; rfl) ?_
  intro w47 h47 P47
  have N47 : w47.1 = 245 := by omega
  refine j_aload_n hX dX8_init_199 rfl ?_
  refine j_bipush (12) hX dX8_init_200 (by decide) ?_
  refine j_newi (N := 12) hX hZ.2.2 (by decide) (by decide) ⟨by have := hZ.1.1; omega, by have := hZ.1.2; omega⟩ dX8_init_202 ?_
  intro w48 hk48 h48 hc48
  rw [N47] at hc48
  rw [N47]
  have P48 := P47.row1 hk48 h48 (by rw [N47]; exact Dn_i (by decide) (by decide) hc48)
  have N48 : w48.1 = 246 := by omega
  refine j_pput (fun lay => [.int 0, .int (-1), .int 0, .ref (lay (222)), .ref (lay (223)), .int 0, .ref (lay (224)), .ref (lay (225)), .ref (lay (226)), .ref (lay (227)), .ref (lay (228)), .ref (lay (229)), .ref (lay (230)), .ref (lay (231)), .ref (lay (232)), .int 0, .ref (lay (233)), .ref (lay (234)), .ref (lay (235)), .ref (lay (236)), .ref (lay (237)), .ref (lay (238)), .ref (lay (239)), .ref (lay (240)), .ref (lay (241)), .ref (lay (242)), .ref (lay (243)), .ref (lay (244)), .ref (lay (245)), .null, .int 0, .null, .int 0]) P48 pb_X8_85 hX hZ.2.1 rfl rfl (fun _ => Nat.le_of_ble_eq_true rfl) dX8_init_204 (fun lay ha => by rw [← ha (245) (by omega)]; rfl) ?_
  intro w49 h49 P49
  have N49 : w49.1 = 246 := by omega
  refine j_aload_n hX dX8_init_207 rfl ?_
  refine j_bipush (12) hX dX8_init_208 (by decide) ?_
  refine j_newi (N := 12) hX hZ.2.2 (by decide) (by decide) ⟨by have := hZ.1.1; omega, by have := hZ.1.2; omega⟩ dX8_init_210 ?_
  intro w50 hk50 h50 hc50
  rw [N49] at hc50
  rw [N49]
  have P50 := P49.row1 hk50 h50 (by rw [N49]; exact Dn_i (by decide) (by decide) hc50)
  have N50 : w50.1 = 247 := by omega
  refine j_pput (fun lay => [.int 0, .int (-1), .int 0, .ref (lay (222)), .ref (lay (223)), .int 0, .ref (lay (224)), .ref (lay (225)), .ref (lay (226)), .ref (lay (227)), .ref (lay (228)), .ref (lay (229)), .ref (lay (230)), .ref (lay (231)), .ref (lay (232)), .int 0, .ref (lay (233)), .ref (lay (234)), .ref (lay (235)), .ref (lay (236)), .ref (lay (237)), .ref (lay (238)), .ref (lay (239)), .ref (lay (240)), .ref (lay (241)), .ref (lay (242)), .ref (lay (243)), .ref (lay (244)), .ref (lay (245)), .ref (lay (246)), .int 0, .null, .int 0]) P50 pb_X8_88 hX hZ.2.1 rfl rfl (fun _ => Nat.le_of_ble_eq_true rfl) dX8_init_212 (fun lay ha => by rw [← ha (246) (by omega)]; rfl) ?_
  intro w51 h51 P51
  have N51 : w51.1 = 247 := by omega
  refine j_aload_n hX dX8_init_215 rfl ?_
  refine j_bipush (12) hX dX8_init_216 (by decide) ?_
  refine j_newi (N := 12) hX hZ.2.2 (by decide) (by decide) ⟨by have := hZ.1.1; omega, by have := hZ.1.2; omega⟩ dX8_init_218 ?_
  intro w52 hk52 h52 hc52
  rw [N51] at hc52
  rw [N51]
  have P52 := P51.row1 hk52 h52 (by rw [N51]; exact Dn_i (by decide) (by decide) hc52)
  have N52 : w52.1 = 248 := by omega
  refine j_pput (fun lay => [.int 0, .int (-1), .int 0, .ref (lay (222)), .ref (lay (223)), .int 0, .ref (lay (224)), .ref (lay (225)), .ref (lay (226)), .ref (lay (227)), .ref (lay (228)), .ref (lay (229)), .ref (lay (230)), .ref (lay (231)), .ref (lay (232)), .int 0, .ref (lay (233)), .ref (lay (234)), .ref (lay (235)), .ref (lay (236)), .ref (lay (237)), .ref (lay (238)), .ref (lay (239)), .ref (lay (240)), .ref (lay (241)), .ref (lay (242)), .ref (lay (243)), .ref (lay (244)), .ref (lay (245)), .ref (lay (246)), .int 0, .ref (lay (247)), .int 0]) P52 pb_X8_91 hX hZ.2.1 rfl rfl (fun _ => Nat.le_of_ble_eq_true rfl) dX8_init_220 (fun lay ha => by rw [← ha (247) (by omega)]; rfl) ?_
  intro w53 h53 P53
  have N53 : w53.1 = 248 := by omega
  refine j_vret hX hR dX8_init_223 ⟨by omega, by omega⟩ ?_
  exact hPo _ P53.1 N53 (fun r h1 h2 => P53.done (fun lay => (ce_8 hkd).symm) (fun lay hx => absurd rfl hx) r h1 (by omega))
set_option maxHeartbeats 1000000 in
theorem c_X7_init : CtJ yX7_init cX7_init 1 4 220 7994 7 7 221 [.null, .int 0, .int 0, .int 0, .int 0, .null, .null, .null, .null] := by
  refine CtJ.mk (by decide +kernel) (by decide) ?_
  intro X b q Po hX hR hZ hAO hb hkd hc hPo
  have hq : q = 0 := (by decide +kernel : ∀ r, r < 248 → kd r = 7 → r = 0) q (kd_lt hkd (by decide)) hkd
  subst hq
  have P0 := Pg.start (ac := xac X) hb hc
  have N0 : b.1 = 1 := hb
  show J X 0 0 0 [some (.ref (b.2.2 0))] [] b
  refine j_aload_n hX dX7_init_0 rfl ?_
  refine j_obj hX ol_X7_3 rfl (by decide) (by decide) dX7_init_1 ?_
  refine j_aload_n hX dX7_init_4 rfl ?_
  refine j_sipush (400) hX dX7_init_5 (by decide) ?_
  refine j_newq (t := 2) (N := 400) (C := "TermReckoner$Entry") hX hZ.2.2 rfl (mw (i := 65) (by decide +kernel) (by decide +kernel)) (hAO.1) (by decide) (by decide) ⟨by have := hZ.1.1; omega, by have := hZ.1.2; omega⟩ dX7_init_8 ?_
  intro w1 hk1 h1 hc1
  rw [N0] at hc1
  rw [N0]
  have P1 := P0.row1 hk1 h1 (by rw [N0]; exact Dn_q (by decide) hc1)
  have N1 : w1.1 = 2 := by omega
  refine j_pput (fun lay => [.ref (lay (1)), .int 0, .int 0, .int 0, .int 0, .null, .null, .null, .null]) P1 pb_X7_11 hX hZ.2.1 rfl rfl (fun _ => Nat.le_of_ble_eq_true rfl) dX7_init_11 (fun lay ha => by rw [← ha (1) (by omega)]; rfl) ?_
  intro w2 h2 P2
  have N2 : w2.1 = 2 := by omega
  refine j_aload_n hX dX7_init_14 rfl ?_
  refine j_iconst (0) hX dX7_init_15 (by decide) ?_
  refine j_pput (fun lay => [.ref (lay (1)), .int 0, .int 0, .int 0, .int 0, .null, .null, .null, .null]) P2 pb_X7_15 hX hZ.2.1 rfl rfl (fun _ => Nat.le_of_ble_eq_true rfl) dX7_init_16 (fun _ _ => rfl) ?_
  intro w3 h3 P3
  have N3 : w3.1 = 2 := by omega
  refine j_aload_n hX dX7_init_19 rfl ?_
  refine j_iconst (0) hX dX7_init_20 (by decide) ?_
  refine j_pput (fun lay => [.ref (lay (1)), .int 0, .int 0, .int 0, .int 0, .null, .null, .null, .null]) P3 pb_X7_19 hX hZ.2.1 rfl rfl (fun _ => Nat.le_of_ble_eq_true rfl) dX7_init_21 (fun _ _ => rfl) ?_
  intro w4 h4 P4
  have N4 : w4.1 = 2 := by omega
  refine j_aload_n hX dX7_init_24 rfl ?_
  refine j_iconst (0) hX dX7_init_25 (by decide) ?_
  refine j_pput (fun lay => [.ref (lay (1)), .int 0, .int 0, .int 0, .int 0, .null, .null, .null, .null]) P4 pb_X7_22 hX hZ.2.1 rfl rfl (fun _ => Nat.le_of_ble_eq_true rfl) dX7_init_26 (fun _ _ => rfl) ?_
  intro w5 h5 P5
  have N5 : w5.1 = 2 := by omega
  refine j_aload_n hX dX7_init_29 rfl ?_
  refine j_iconst (-1) hX dX7_init_30 (by decide) ?_
  refine j_pput (fun lay => [.ref (lay (1)), .int 0, .int 0, .int 0, .int (-1), .null, .null, .null, .null]) P5 pb_X7_25 hX hZ.2.1 rfl rfl (fun _ => Nat.le_of_ble_eq_true rfl) dX7_init_31 (fun _ _ => rfl) ?_
  intro w6 h6 P6
  have N6 : w6.1 = 2 := by omega
  refine j_aload_n hX dX7_init_34 rfl ?_
  refine j_new (ci := 4) (C := RX4) (T := TX4) (fs := [.null, .int 0]) tyX4 hX hZ.2.2 rfl inU_X4 tyX4_ok (mw (i := 67) (by decide +kernel) (by decide +kernel)) (mw (i := 68) (by decide +kernel) (by decide +kernel)) ini_X4 (by decide +kernel) ⟨by have := hZ.1.1; omega, by have := hZ.1.2; omega⟩ dX7_init_35 ?_
  intro w7 hk7 h7 hc7
  rw [N6] at hc7
  rw [N6]
  have N7 : w7.1 = 3 := by omega
  refine j_dup hX dX7_init_38 rfl ?_
  refine j_callI (q := 2) hX hAO c_X4_init mi_X4_init (mw (i := 70) (by decide +kernel) (by decide +kernel)) rfl (mw (i := 69) (by decide +kernel) (by decide +kernel)) (by decide) rfl (Nat.le_of_ble_eq_true rfl) ⟨by have := hZ.1.1; omega, by have := hZ.1.2; omega⟩ dX7_init_39 N7 (by decide) hc7 ?_
  intro w8 hk8 h8 hd8
  have P8 := P6.call hk7 (by rw [N6]; exact hk8) (by rw [N6]; exact h8) (by rw [N6]; exact hd8)
  rw [← hk8.2.1 (2) (by omega)]
  have N8 : w8.1 = 106 := by omega
  refine j_pput (fun lay => [.ref (lay (1)), .int 0, .int 0, .int 0, .int (-1), .ref (lay (2)), .null, .null, .null]) P8 pb_X7_31 hX hZ.2.1 rfl rfl (fun _ => Nat.le_of_ble_eq_true rfl) dX7_init_42 (fun lay ha => by rw [← ha (2) (by omega)]; rfl) ?_
  intro w9 h9 P9
  have N9 : w9.1 = 106 := by omega
  refine j_aload_n hX dX7_init_45 rfl ?_
  refine j_new (ci := 4) (C := RX4) (T := TX4) (fs := [.null, .int 0]) tyX4 hX hZ.2.2 rfl inU_X4 tyX4_ok (mw (i := 67) (by decide +kernel) (by decide +kernel)) (mw (i := 68) (by decide +kernel) (by decide +kernel)) ini_X4 (by decide +kernel) ⟨by have := hZ.1.1; omega, by have := hZ.1.2; omega⟩ dX7_init_46 ?_
  intro w10 hk10 h10 hc10
  rw [N9] at hc10
  rw [N9]
  have N10 : w10.1 = 107 := by omega
  refine j_dup hX dX7_init_49 rfl ?_
  refine j_callI (q := 106) hX hAO c_X4_init mi_X4_init (mw (i := 70) (by decide +kernel) (by decide +kernel)) rfl (mw (i := 69) (by decide +kernel) (by decide +kernel)) (by decide) rfl (Nat.le_of_ble_eq_true rfl) ⟨by have := hZ.1.1; omega, by have := hZ.1.2; omega⟩ dX7_init_50 N10 (by decide) hc10 ?_
  intro w11 hk11 h11 hd11
  have P11 := P9.call hk10 (by rw [N9]; exact hk11) (by rw [N9]; exact h11) (by rw [N9]; exact hd11)
  rw [← hk11.2.1 (106) (by omega)]
  have N11 : w11.1 = 210 := by omega
  refine j_pput (fun lay => [.ref (lay (1)), .int 0, .int 0, .int 0, .int (-1), .ref (lay (2)), .ref (lay (106)), .null, .null]) P11 pb_X7_35 hX hZ.2.1 rfl rfl (fun _ => Nat.le_of_ble_eq_true rfl) dX7_init_53 (fun lay ha => by rw [← ha (106) (by omega)]; rfl) ?_
  intro w12 h12 P12
  have N12 : w12.1 = 210 := by omega
  refine j_aload_n hX dX7_init_56 rfl ?_
  refine j_new (ci := 3) (C := RX3) (T := TX3) (fs := [.null, .null, .null, .null, .null, .null, .int 0]) tyX3 hX hZ.2.2 rfl inU_X3 tyX3_ok (mw (i := 163) (by decide +kernel) (by decide +kernel)) (mw (i := 164) (by decide +kernel) (by decide +kernel)) ini_X3 (by decide +kernel) ⟨by have := hZ.1.1; omega, by have := hZ.1.2; omega⟩ dX7_init_57 ?_
  intro w13 hk13 h13 hc13
  rw [N12] at hc13
  rw [N12]
  have N13 : w13.1 = 211 := by omega
  refine j_dup hX dX7_init_60 rfl ?_
  refine j_callIN (q := 210) (host := "TermReckoner") hX hAO c_X3_init mi_X3_init (mw (i := 166) (by decide +kernel) (by decide +kernel)) rfl (mn (i := 165) (by decide +kernel) (by decide +kernel)) (by decide) rfl (Nat.le_of_ble_eq_true rfl) ⟨by have := hZ.1.1; omega, by have := hZ.1.2; omega⟩ dX7_init_61 N13 (by decide) hc13 ?_
  intro w14 hk14 h14 hd14
  have P14 := P12.call hk13 (by rw [N12]; exact hk14) (by rw [N12]; exact h14) (by rw [N12]; exact hd14)
  rw [← hk14.2.1 (210) (by omega)]
  have N14 : w14.1 = 217 := by omega
  refine j_pput (fun lay => [.ref (lay (1)), .int 0, .int 0, .int 0, .int (-1), .ref (lay (2)), .ref (lay (106)), .ref (lay (210)), .null]) P14 pb_X7_41 hX hZ.2.1 rfl rfl (fun _ => Nat.le_of_ble_eq_true rfl) dX7_init_64 (fun lay ha => by rw [← ha (210) (by omega)]; rfl) ?_
  intro w15 h15 P15
  have N15 : w15.1 = 217 := by omega
  refine j_aload_n hX dX7_init_67 rfl ?_
  refine j_new (ci := 5) (C := RX5) (T := TX5) (fs := [.null, .int 0, .null, .null]) tyX5 hX hZ.2.2 rfl inU_X5 tyX5_ok (mw (i := 216) (by decide +kernel) (by decide +kernel)) (mw (i := 217) (by decide +kernel) (by decide +kernel)) ini_X5 (by decide +kernel) ⟨by have := hZ.1.1; omega, by have := hZ.1.2; omega⟩ dX7_init_68 ?_
  intro w16 hk16 h16 hc16
  rw [N15] at hc16
  rw [N15]
  have N16 : w16.1 = 218 := by omega
  refine j_dup hX dX7_init_71 rfl ?_
  refine j_callIN (q := 217) (host := "TermReckoner") hX hAO c_X5_init mi_X5_init (mw (i := 219) (by decide +kernel) (by decide +kernel)) rfl (mn (i := 218) (by decide +kernel) (by decide +kernel)) (by decide) rfl (Nat.le_of_ble_eq_true rfl) ⟨by have := hZ.1.1; omega, by have := hZ.1.2; omega⟩ dX7_init_72 N16 (by decide) hc16 ?_
  intro w17 hk17 h17 hd17
  have P17 := P15.call hk16 (by rw [N15]; exact hk17) (by rw [N15]; exact h17) (by rw [N15]; exact hd17)
  rw [← hk17.2.1 (217) (by omega)]
  have N17 : w17.1 = 221 := by omega
  refine j_pput (fun lay => [.ref (lay (1)), .int 0, .int 0, .int 0, .int (-1), .ref (lay (2)), .ref (lay (106)), .ref (lay (210)), .ref (lay (217))]) P17 pb_X7_48 hX hZ.2.1 rfl rfl (fun _ => Nat.le_of_ble_eq_true rfl) dX7_init_75 (fun lay ha => by rw [← ha (217) (by omega)]; rfl) ?_
  intro w18 h18 P18
  have N18 : w18.1 = 221 := by omega
  refine j_vret hX hR dX7_init_78 ⟨by omega, by omega⟩ ?_
  exact hPo _ P18.1 N18 (fun r h1 h2 => P18.done (fun lay => (ce_7 hkd).symm) (fun lay hx => absurd rfl hx) r h1 (by omega))
