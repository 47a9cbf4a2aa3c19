theorem klt {r c : Nat} {w : St} (h : kd r = c) (hc : c ≠ 0) : r < 248 + w.2.2.1 := Nat.lt_of_lt_of_le (kd_lt h hc) (Nat.le_add_right _ _)
theorem kd_ge (i : Nat) : kd (248 + i) = 0 := by
  unfold kd
  repeat (first | rw [if_neg (by omega)] | rfl)
theorem layin {C : String} {T : u_T} {N : Nat} (h : ∀ k, k < N → u_lay C T k ∈ wU) : ∀ q ∈ u_ws C T N, q ∈ wU := by
  intro q hq
  obtain ⟨k, hk, rfl⟩ := List.mem_map.mp hq
  exact h k (List.mem_range.mp hk)
theorem ly_X0_0 : u_lay RX0 TX0 0 ∈ wU := mw (i := 337) (by decide +kernel) (by decide +kernel)
theorem ly_X0_1 : u_lay RX0 TX0 1 ∈ wU := mw (i := 339) (by decide +kernel) (by decide +kernel)
theorem ly_X0_2 : u_lay RX0 TX0 2 ∈ wU := mw (i := 341) (by decide +kernel) (by decide +kernel)
theorem ly_X0_3 : u_lay RX0 TX0 3 ∈ wU := mw (i := 343) (by decide +kernel) (by decide +kernel)
theorem ly_X0_4 : u_lay RX0 TX0 4 ∈ wU := mw (i := 345) (by decide +kernel) (by decide +kernel)
theorem ly_X0_5 : u_lay RX0 TX0 5 ∈ wU := mw (i := 347) (by decide +kernel) (by decide +kernel)
theorem ly_X0_6 : u_lay RX0 TX0 6 ∈ wU := mw (i := 349) (by decide +kernel) (by decide +kernel)
theorem ly_X0_7 : u_lay RX0 TX0 7 ∈ wU := mw (i := 351) (by decide +kernel) (by decide +kernel)
theorem ly_X0_8 : u_lay RX0 TX0 8 ∈ wU := mw (i := 353) (by decide +kernel) (by decide +kernel)
theorem inU_X0 : ∀ q ∈ u_ws RX0 TX0 9, q ∈ wU := layin (fun k hk => match k, hk with
  | 0, _ => ly_X0_0
  | 1, _ => ly_X0_1
  | 2, _ => ly_X0_2
  | 3, _ => ly_X0_3
  | 4, _ => ly_X0_4
  | 5, _ => ly_X0_5
  | 6, _ => ly_X0_6
  | 7, _ => ly_X0_7
  | 8, _ => ly_X0_8
  | k + 9, hk => absurd hk (by omega))
theorem ly_X1_0 : u_lay RX1 TX1 0 ∈ wU := mw (i := 145) (by decide +kernel) (by decide +kernel)
theorem ly_X1_1 : u_lay RX1 TX1 1 ∈ wU := mw (i := 147) (by decide +kernel) (by decide +kernel)
theorem ly_X1_2 : u_lay RX1 TX1 2 ∈ wU := mw (i := 149) (by decide +kernel) (by decide +kernel)
theorem ly_X1_3 : u_lay RX1 TX1 3 ∈ wU := mw (i := 151) (by decide +kernel) (by decide +kernel)
theorem ly_X1_4 : u_lay RX1 TX1 4 ∈ wU := mw (i := 153) (by decide +kernel) (by decide +kernel)
theorem inU_X1 : ∀ q ∈ u_ws RX1 TX1 5, q ∈ wU := layin (fun k hk => match k, hk with
  | 0, _ => ly_X1_0
  | 1, _ => ly_X1_1
  | 2, _ => ly_X1_2
  | 3, _ => ly_X1_3
  | 4, _ => ly_X1_4
  | k + 5, hk => absurd hk (by omega))
theorem ly_X2_0 : u_lay RX2 TX2 0 ∈ wU := mw (i := 118) (by decide +kernel) (by decide +kernel)
theorem ly_X2_1 : u_lay RX2 TX2 1 ∈ wU := mw (i := 120) (by decide +kernel) (by decide +kernel)
theorem ly_X2_2 : u_lay RX2 TX2 2 ∈ wU := mw (i := 122) (by decide +kernel) (by decide +kernel)
theorem ly_X2_3 : u_lay RX2 TX2 3 ∈ wU := mw (i := 124) (by decide +kernel) (by decide +kernel)
theorem ly_X2_4 : u_lay RX2 TX2 4 ∈ wU := mw (i := 126) (by decide +kernel) (by decide +kernel)
theorem ly_X2_5 : u_lay RX2 TX2 5 ∈ wU := mw (i := 128) (by decide +kernel) (by decide +kernel)
theorem ly_X2_6 : u_lay RX2 TX2 6 ∈ wU := mw (i := 130) (by decide +kernel) (by decide +kernel)
theorem ly_X2_7 : u_lay RX2 TX2 7 ∈ wU := mw (i := 132) (by decide +kernel) (by decide +kernel)
theorem ly_X2_8 : u_lay RX2 TX2 8 ∈ wU := mw (i := 134) (by decide +kernel) (by decide +kernel)
theorem inU_X2 : ∀ q ∈ u_ws RX2 TX2 9, q ∈ wU := layin (fun k hk => match k, hk with
  | 0, _ => ly_X2_0
  | 1, _ => ly_X2_1
  | 2, _ => ly_X2_2
  | 3, _ => ly_X2_3
  | 4, _ => ly_X2_4
  | 5, _ => ly_X2_5
  | 6, _ => ly_X2_6
  | 7, _ => ly_X2_7
  | 8, _ => ly_X2_8
  | k + 9, hk => absurd hk (by omega))
theorem ly_X3_0 : u_lay RX3 TX3 0 ∈ wU := mw (i := 201) (by decide +kernel) (by decide +kernel)
theorem ly_X3_1 : u_lay RX3 TX3 1 ∈ wU := mw (i := 203) (by decide +kernel) (by decide +kernel)
theorem ly_X3_2 : u_lay RX3 TX3 2 ∈ wU := mw (i := 205) (by decide +kernel) (by decide +kernel)
theorem ly_X3_3 : u_lay RX3 TX3 3 ∈ wU := mw (i := 207) (by decide +kernel) (by decide +kernel)
theorem ly_X3_4 : u_lay RX3 TX3 4 ∈ wU := mw (i := 209) (by decide +kernel) (by decide +kernel)
theorem ly_X3_5 : u_lay RX3 TX3 5 ∈ wU := mw (i := 211) (by decide +kernel) (by decide +kernel)
theorem ly_X3_6 : u_lay RX3 TX3 6 ∈ wU := mw (i := 213) (by decide +kernel) (by decide +kernel)
theorem inU_X3 : ∀ q ∈ u_ws RX3 TX3 7, q ∈ wU := layin (fun k hk => match k, hk with
  | 0, _ => ly_X3_0
  | 1, _ => ly_X3_1
  | 2, _ => ly_X3_2
  | 3, _ => ly_X3_3
  | 4, _ => ly_X3_4
  | 5, _ => ly_X3_5
  | 6, _ => ly_X3_6
  | k + 7, hk => absurd hk (by omega))
theorem ly_X4_0 : u_lay RX4 TX4 0 ∈ wU := mw (i := 158) (by decide +kernel) (by decide +kernel)
theorem ly_X4_1 : u_lay RX4 TX4 1 ∈ wU := mw (i := 160) (by decide +kernel) (by decide +kernel)
theorem inU_X4 : ∀ q ∈ u_ws RX4 TX4 2, q ∈ wU := layin (fun k hk => match k, hk with
  | 0, _ => ly_X4_0
  | 1, _ => ly_X4_1
  | k + 2, hk => absurd hk (by omega))
theorem ly_X5_0 : u_lay RX5 TX5 0 ∈ wU := mw (i := 226) (by decide +kernel) (by decide +kernel)
theorem ly_X5_1 : u_lay RX5 TX5 1 ∈ wU := mw (i := 228) (by decide +kernel) (by decide +kernel)
theorem ly_X5_2 : u_lay RX5 TX5 2 ∈ wU := mw (i := 230) (by decide +kernel) (by decide +kernel)
theorem ly_X5_3 : u_lay RX5 TX5 3 ∈ wU := mw (i := 232) (by decide +kernel) (by decide +kernel)
theorem inU_X5 : ∀ q ∈ u_ws RX5 TX5 4, q ∈ wU := layin (fun k hk => match k, hk with
  | 0, _ => ly_X5_0
  | 1, _ => ly_X5_1
  | 2, _ => ly_X5_2
  | 3, _ => ly_X5_3
  | k + 4, hk => absurd hk (by omega))
theorem ly_X6_0 : u_lay RX6 TX6 0 ∈ wU := mw (i := 181) (by decide +kernel) (by decide +kernel)
theorem ly_X6_1 : u_lay RX6 TX6 1 ∈ wU := mw (i := 183) (by decide +kernel) (by decide +kernel)
theorem ly_X6_2 : u_lay RX6 TX6 2 ∈ wU := mw (i := 185) (by decide +kernel) (by decide +kernel)
theorem ly_X6_3 : u_lay RX6 TX6 3 ∈ wU := mw (i := 187) (by decide +kernel) (by decide +kernel)
theorem ly_X6_4 : u_lay RX6 TX6 4 ∈ wU := mw (i := 189) (by decide +kernel) (by decide +kernel)
theorem ly_X6_5 : u_lay RX6 TX6 5 ∈ wU := mw (i := 191) (by decide +kernel) (by decide +kernel)
theorem inU_X6 : ∀ q ∈ u_ws RX6 TX6 6, q ∈ wU := layin (fun k hk => match k, hk with
  | 0, _ => ly_X6_0
  | 1, _ => ly_X6_1
  | 2, _ => ly_X6_2
  | 3, _ => ly_X6_3
  | 4, _ => ly_X6_4
  | 5, _ => ly_X6_5
  | k + 6, hk => absurd hk (by omega))
theorem ly_X7_0 : u_lay RX7 TX7 0 ∈ wU := mw (i := 244) (by decide +kernel) (by decide +kernel)
theorem ly_X7_1 : u_lay RX7 TX7 1 ∈ wU := mw (i := 246) (by decide +kernel) (by decide +kernel)
theorem ly_X7_2 : u_lay RX7 TX7 2 ∈ wU := mw (i := 248) (by decide +kernel) (by decide +kernel)
theorem ly_X7_3 : u_lay RX7 TX7 3 ∈ wU := mw (i := 250) (by decide +kernel) (by decide +kernel)
theorem ly_X7_4 : u_lay RX7 TX7 4 ∈ wU := mw (i := 252) (by decide +kernel) (by decide +kernel)
theorem ly_X7_5 : u_lay RX7 TX7 5 ∈ wU := mw (i := 254) (by decide +kernel) (by decide +kernel)
theorem ly_X7_6 : u_lay RX7 TX7 6 ∈ wU := mw (i := 256) (by decide +kernel) (by decide +kernel)
theorem ly_X7_7 : u_lay RX7 TX7 7 ∈ wU := mw (i := 258) (by decide +kernel) (by decide +kernel)
theorem ly_X7_8 : u_lay RX7 TX7 8 ∈ wU := mw (i := 260) (by decide +kernel) (by decide +kernel)
theorem inU_X7 : ∀ q ∈ u_ws RX7 TX7 9, q ∈ wU := layin (fun k hk => match k, hk with
  | 0, _ => ly_X7_0
  | 1, _ => ly_X7_1
  | 2, _ => ly_X7_2
  | 3, _ => ly_X7_3
  | 4, _ => ly_X7_4
  | 5, _ => ly_X7_5
  | 6, _ => ly_X7_6
  | 7, _ => ly_X7_7
  | 8, _ => ly_X7_8
  | k + 9, hk => absurd hk (by omega))
theorem ly_X8_0 : u_lay RX8 TX8 0 ∈ wU := mw (i := 836) (by decide +kernel) (by decide +kernel)
theorem ly_X8_1 : u_lay RX8 TX8 1 ∈ wU := mw (i := 838) (by decide +kernel) (by decide +kernel)
theorem ly_X8_2 : u_lay RX8 TX8 2 ∈ wU := mw (i := 840) (by decide +kernel) (by decide +kernel)
theorem ly_X8_3 : u_lay RX8 TX8 3 ∈ wU := mw (i := 842) (by decide +kernel) (by decide +kernel)
theorem ly_X8_4 : u_lay RX8 TX8 4 ∈ wU := mw (i := 844) (by decide +kernel) (by decide +kernel)
theorem ly_X8_5 : u_lay RX8 TX8 5 ∈ wU := mw (i := 846) (by decide +kernel) (by decide +kernel)
theorem ly_X8_6 : u_lay RX8 TX8 6 ∈ wU := mw (i := 848) (by decide +kernel) (by decide +kernel)
theorem ly_X8_7 : u_lay RX8 TX8 7 ∈ wU := mw (i := 850) (by decide +kernel) (by decide +kernel)
theorem ly_X8_8 : u_lay RX8 TX8 8 ∈ wU := mw (i := 852) (by decide +kernel) (by decide +kernel)
theorem ly_X8_9 : u_lay RX8 TX8 9 ∈ wU := mw (i := 854) (by decide +kernel) (by decide +kernel)
theorem ly_X8_10 : u_lay RX8 TX8 10 ∈ wU := mw (i := 856) (by decide +kernel) (by decide +kernel)
theorem ly_X8_11 : u_lay RX8 TX8 11 ∈ wU := mw (i := 858) (by decide +kernel) (by decide +kernel)
theorem ly_X8_12 : u_lay RX8 TX8 12 ∈ wU := mw (i := 860) (by decide +kernel) (by decide +kernel)
theorem ly_X8_13 : u_lay RX8 TX8 13 ∈ wU := mw (i := 862) (by decide +kernel) (by decide +kernel)
theorem ly_X8_14 : u_lay RX8 TX8 14 ∈ wU := mw (i := 864) (by decide +kernel) (by decide +kernel)
theorem ly_X8_15 : u_lay RX8 TX8 15 ∈ wU := mw (i := 866) (by decide +kernel) (by decide +kernel)
theorem ly_X8_16 : u_lay RX8 TX8 16 ∈ wU := mw (i := 868) (by decide +kernel) (by decide +kernel)
theorem ly_X8_17 : u_lay RX8 TX8 17 ∈ wU := mw (i := 870) (by decide +kernel) (by decide +kernel)
theorem ly_X8_18 : u_lay RX8 TX8 18 ∈ wU := mw (i := 872) (by decide +kernel) (by decide +kernel)
theorem ly_X8_19 : u_lay RX8 TX8 19 ∈ wU := mw (i := 874) (by decide +kernel) (by decide +kernel)
theorem ly_X8_20 : u_lay RX8 TX8 20 ∈ wU := mw (i := 876) (by decide +kernel) (by decide +kernel)
theorem ly_X8_21 : u_lay RX8 TX8 21 ∈ wU := mw (i := 878) (by decide +kernel) (by decide +kernel)
theorem ly_X8_22 : u_lay RX8 TX8 22 ∈ wU := mw (i := 880) (by decide +kernel) (by decide +kernel)
theorem ly_X8_23 : u_lay RX8 TX8 23 ∈ wU := mw (i := 882) (by decide +kernel) (by decide +kernel)
theorem ly_X8_24 : u_lay RX8 TX8 24 ∈ wU := mw (i := 884) (by decide +kernel) (by decide +kernel)
theorem ly_X8_25 : u_lay RX8 TX8 25 ∈ wU := mw (i := 886) (by decide +kernel) (by decide +kernel)
theorem ly_X8_26 : u_lay RX8 TX8 26 ∈ wU := mw (i := 888) (by decide +kernel) (by decide +kernel)
theorem ly_X8_27 : u_lay RX8 TX8 27 ∈ wU := mw (i := 890) (by decide +kernel) (by decide +kernel)
theorem ly_X8_28 : u_lay RX8 TX8 28 ∈ wU := mw (i := 892) (by decide +kernel) (by decide +kernel)
theorem ly_X8_29 : u_lay RX8 TX8 29 ∈ wU := mw (i := 894) (by decide +kernel) (by decide +kernel)
theorem ly_X8_30 : u_lay RX8 TX8 30 ∈ wU := mw (i := 896) (by decide +kernel) (by decide +kernel)
theorem ly_X8_31 : u_lay RX8 TX8 31 ∈ wU := mw (i := 898) (by decide +kernel) (by decide +kernel)
theorem ly_X8_32 : u_lay RX8 TX8 32 ∈ wU := mw (i := 900) (by decide +kernel) (by decide +kernel)
theorem inU_X8 : ∀ q ∈ u_ws RX8 TX8 33, q ∈ wU := layin (fun k hk => match k, hk with
  | 0, _ => ly_X8_0
  | 1, _ => ly_X8_1
  | 2, _ => ly_X8_2
  | 3, _ => ly_X8_3
  | 4, _ => ly_X8_4
  | 5, _ => ly_X8_5
  | 6, _ => ly_X8_6
  | 7, _ => ly_X8_7
  | 8, _ => ly_X8_8
  | 9, _ => ly_X8_9
  | 10, _ => ly_X8_10
  | 11, _ => ly_X8_11
  | 12, _ => ly_X8_12
  | 13, _ => ly_X8_13
  | 14, _ => ly_X8_14
  | 15, _ => ly_X8_15
  | 16, _ => ly_X8_16
  | 17, _ => ly_X8_17
  | 18, _ => ly_X8_18
  | 19, _ => ly_X8_19
  | 20, _ => ly_X8_20
  | 21, _ => ly_X8_21
  | 22, _ => ly_X8_22
  | 23, _ => ly_X8_23
  | 24, _ => ly_X8_24
  | 25, _ => ly_X8_25
  | 26, _ => ly_X8_26
  | 27, _ => ly_X8_27
  | 28, _ => ly_X8_28
  | 29, _ => ly_X8_29
  | 30, _ => ly_X8_30
  | 31, _ => ly_X8_31
  | 32, _ => ly_X8_32
  | k + 33, hk => absurd hk (by omega))
section FIELDS
variable {X : Cx} {cc : ByteArray} {nL d k n pc : Nat} {ls : List (Option Value)} {st : List Value} {w : St}
theorem fl_X0_9 : Cond.fieldLink RX0 9 "TermReckoner$Entry" "c" "I" ∈ wU := mw (i := 322) (by decide +kernel) (by decide +kernel)
theorem gf_X0_9 {i : Nat} (hi : i < w.2.2.1) (hX : Kx X cc RX0 nL d) (hd : decode cc pc = .ok (.getfield 9, 3)) (kk : A X k n (pc + 3) ls (.int (w.1 (248 + i) 4) :: st) w) : A X k n pc ls (.ref (w.2.2.2 i) :: st) w := a_get hX (Nat.add_lt_add_left hi 248) adr_ge (cell_0 (kd_ge i)) rfl inU_X0 (j := 4) (by decide) fl_X0_9 rfl rfl hd kk
theorem pf_X0_9 {v : Int32} {i : Nat} (hi : i < w.2.2.1) (hX : Kx X cc RX0 nL d) (hd : decode cc pc = .ok (.putfield 9, 3)) (kk : A X k n (pc + 3) ls st (wset w (248 + i) 4 v)) : A X k n pc ls (.int v :: .ref (w.2.2.2 i) :: st) w := a_put tyX0 hX (Nat.add_lt_add_left hi 248) adr_ge (cell_0 (kd_ge i)) rfl inU_X0 tyX0_ok nmX0 (j := 4) (by decide) fl_X0_9 rfl rfl rfl (Nat.le_of_ble_eq_true rfl) (by simp [cellF, kd_ge, upd]) hd kk
theorem fl_X0_15 : Cond.fieldLink RX0 15 "TermReckoner$Entry" "d" "I" ∈ wU := mw (i := 325) (by decide +kernel) (by decide +kernel)
theorem gf_X0_15 {i : Nat} (hi : i < w.2.2.1) (hX : Kx X cc RX0 nL d) (hd : decode cc pc = .ok (.getfield 15, 3)) (kk : A X k n (pc + 3) ls (.int (w.1 (248 + i) 5) :: st) w) : A X k n pc ls (.ref (w.2.2.2 i) :: st) w := a_get hX (Nat.add_lt_add_left hi 248) adr_ge (cell_0 (kd_ge i)) rfl inU_X0 (j := 5) (by decide) fl_X0_15 rfl rfl hd kk
theorem pf_X0_15 {v : Int32} {i : Nat} (hi : i < w.2.2.1) (hX : Kx X cc RX0 nL d) (hd : decode cc pc = .ok (.putfield 15, 3)) (kk : A X k n (pc + 3) ls st (wset w (248 + i) 5 v)) : A X k n pc ls (.int v :: .ref (w.2.2.2 i) :: st) w := a_put tyX0 hX (Nat.add_lt_add_left hi 248) adr_ge (cell_0 (kd_ge i)) rfl inU_X0 tyX0_ok nmX0 (j := 5) (by decide) fl_X0_15 rfl rfl rfl (Nat.le_of_ble_eq_true rfl) (by simp [cellF, kd_ge, upd]) hd kk
theorem fl_X0_18 : Cond.fieldLink RX0 18 "TermReckoner$Entry" "e" "I" ∈ wU := mw (i := 328) (by decide +kernel) (by decide +kernel)
theorem gf_X0_18 {i : Nat} (hi : i < w.2.2.1) (hX : Kx X cc RX0 nL d) (hd : decode cc pc = .ok (.getfield 18, 3)) (kk : A X k n (pc + 3) ls (.int (w.1 (248 + i) 6) :: st) w) : A X k n pc ls (.ref (w.2.2.2 i) :: st) w := a_get hX (Nat.add_lt_add_left hi 248) adr_ge (cell_0 (kd_ge i)) rfl inU_X0 (j := 6) (by decide) fl_X0_18 rfl rfl hd kk
theorem pf_X0_18 {v : Int32} {i : Nat} (hi : i < w.2.2.1) (hX : Kx X cc RX0 nL d) (hd : decode cc pc = .ok (.putfield 18, 3)) (kk : A X k n (pc + 3) ls st (wset w (248 + i) 6 v)) : A X k n pc ls (.int v :: .ref (w.2.2.2 i) :: st) w := a_put tyX0 hX (Nat.add_lt_add_left hi 248) adr_ge (cell_0 (kd_ge i)) rfl inU_X0 tyX0_ok nmX0 (j := 6) (by decide) fl_X0_18 rfl rfl rfl (Nat.le_of_ble_eq_true rfl) (by simp [cellF, kd_ge, upd]) hd kk
theorem fl_X0_21 : Cond.fieldLink RX0 21 "TermReckoner$Entry" "f" "I" ∈ wU := mw (i := 331) (by decide +kernel) (by decide +kernel)
theorem gf_X0_21 {i : Nat} (hi : i < w.2.2.1) (hX : Kx X cc RX0 nL d) (hd : decode cc pc = .ok (.getfield 21, 3)) (kk : A X k n (pc + 3) ls (.int (w.1 (248 + i) 7) :: st) w) : A X k n pc ls (.ref (w.2.2.2 i) :: st) w := a_get hX (Nat.add_lt_add_left hi 248) adr_ge (cell_0 (kd_ge i)) rfl inU_X0 (j := 7) (by decide) fl_X0_21 rfl rfl hd kk
theorem pf_X0_21 {v : Int32} {i : Nat} (hi : i < w.2.2.1) (hX : Kx X cc RX0 nL d) (hd : decode cc pc = .ok (.putfield 21, 3)) (kk : A X k n (pc + 3) ls st (wset w (248 + i) 7 v)) : A X k n pc ls (.int v :: .ref (w.2.2.2 i) :: st) w := a_put tyX0 hX (Nat.add_lt_add_left hi 248) adr_ge (cell_0 (kd_ge i)) rfl inU_X0 tyX0_ok nmX0 (j := 7) (by decide) fl_X0_21 rfl rfl rfl (Nat.le_of_ble_eq_true rfl) (by simp [cellF, kd_ge, upd]) hd kk
theorem fl_X0_24 : Cond.fieldLink RX0 24 "TermReckoner$Entry" "need" "I" ∈ wU := mw (i := 334) (by decide +kernel) (by decide +kernel)
theorem pf_X0_24 {v : Int32} {i : Nat} (hi : i < w.2.2.1) (hX : Kx X cc RX0 nL d) (hd : decode cc pc = .ok (.putfield 24, 3)) (kk : A X k n (pc + 3) ls st (wset w (248 + i) 8 v)) : A X k n pc ls (.int v :: .ref (w.2.2.2 i) :: st) w := a_put tyX0 hX (Nat.add_lt_add_left hi 248) adr_ge (cell_0 (kd_ge i)) rfl inU_X0 tyX0_ok nmX0 (j := 8) (by decide) fl_X0_24 rfl rfl rfl (Nat.le_of_ble_eq_true rfl) (by simp [cellF, kd_ge, upd]) hd kk
theorem fl_X0_27 : Cond.fieldLink RX0 27 "TermReckoner$Entry" "today" "I" ∈ wU := mw (i := 314) (by decide +kernel) (by decide +kernel)
theorem gf_X0_27 {i : Nat} (hi : i < w.2.2.1) (hX : Kx X cc RX0 nL d) (hd : decode cc pc = .ok (.getfield 27, 3)) (kk : A X k n (pc + 3) ls (.int (w.1 (248 + i) 0) :: st) w) : A X k n pc ls (.ref (w.2.2.2 i) :: st) w := a_get hX (Nat.add_lt_add_left hi 248) adr_ge (cell_0 (kd_ge i)) rfl inU_X0 (j := 0) (by decide) fl_X0_27 rfl rfl hd kk
theorem fl_X0_30 : Cond.fieldLink RX0 30 "TermReckoner$Entry" "call" "I" ∈ wU := mw (i := 316) (by decide +kernel) (by decide +kernel)
theorem gf_X0_30 {i : Nat} (hi : i < w.2.2.1) (hX : Kx X cc RX0 nL d) (hd : decode cc pc = .ok (.getfield 30, 3)) (kk : A X k n (pc + 3) ls (.int (w.1 (248 + i) 1) :: st) w) : A X k n pc ls (.ref (w.2.2.2 i) :: st) w := a_get hX (Nat.add_lt_add_left hi 248) adr_ge (cell_0 (kd_ge i)) rfl inU_X0 (j := 1) (by decide) fl_X0_30 rfl rfl hd kk
theorem fl_X0_33 : Cond.fieldLink RX0 33 "TermReckoner$Entry" "a" "I" ∈ wU := mw (i := 318) (by decide +kernel) (by decide +kernel)
theorem gf_X0_33 {i : Nat} (hi : i < w.2.2.1) (hX : Kx X cc RX0 nL d) (hd : decode cc pc = .ok (.getfield 33, 3)) (kk : A X k n (pc + 3) ls (.int (w.1 (248 + i) 2) :: st) w) : A X k n pc ls (.ref (w.2.2.2 i) :: st) w := a_get hX (Nat.add_lt_add_left hi 248) adr_ge (cell_0 (kd_ge i)) rfl inU_X0 (j := 2) (by decide) fl_X0_33 rfl rfl hd kk
theorem fl_X0_36 : Cond.fieldLink RX0 36 "TermReckoner$Entry" "b" "I" ∈ wU := mw (i := 320) (by decide +kernel) (by decide +kernel)
theorem gf_X0_36 {i : Nat} (hi : i < w.2.2.1) (hX : Kx X cc RX0 nL d) (hd : decode cc pc = .ok (.getfield 36, 3)) (kk : A X k n (pc + 3) ls (.int (w.1 (248 + i) 3) :: st) w) : A X k n pc ls (.ref (w.2.2.2 i) :: st) w := a_get hX (Nat.add_lt_add_left hi 248) adr_ge (cell_0 (kd_ge i)) rfl inU_X0 (j := 3) (by decide) fl_X0_36 rfl rfl hd kk
theorem fl_X1_11 : Cond.fieldLink RX1 11 "TermReckoner$File" "places" "[LTermReckoner$Place;" ∈ wU := mw (i := 138) (by decide +kernel) (by decide +kernel)
theorem gf_X1_11 {r : Nat} (hk0 : kd r = 1) (hX : Kx X cc RX1 nL d) (hd : decode cc pc = .ok (.getfield 11, 3)) (kk : A X k n (pc + 3) ls (.ref (xlay X (r + 1)) :: st) w) : A X k n pc ls (.ref (xlay X r) :: st) w := a_get hX (klt hk0 (by decide)) (adr_lt (kd_lt hk0 (by decide))) (cell_1 hk0) rfl inU_X1 (j := 0) (by decide) fl_X1_11 rfl rfl hd kk
theorem fl_X1_17 : Cond.fieldLink RX1 17 "TermReckoner$File" "shapes" "[I" ∈ wU := mw (i := 139) (by decide +kernel) (by decide +kernel)
theorem gf_X1_17 {r : Nat} (hk0 : kd r = 1) (hX : Kx X cc RX1 nL d) (hd : decode cc pc = .ok (.getfield 17, 3)) (kk : A X k n (pc + 3) ls (.ref (xlay X (r + 2)) :: st) w) : A X k n pc ls (.ref (xlay X r) :: st) w := a_get hX (klt hk0 (by decide)) (adr_lt (kd_lt hk0 (by decide))) (cell_1 hk0) rfl inU_X1 (j := 1) (by decide) fl_X1_17 rfl rfl hd kk
theorem fl_X1_21 : Cond.fieldLink RX1 21 "TermReckoner$File" "lengths" "[I" ∈ wU := mw (i := 140) (by decide +kernel) (by decide +kernel)
theorem gf_X1_21 {r : Nat} (hk0 : kd r = 1) (hX : Kx X cc RX1 nL d) (hd : decode cc pc = .ok (.getfield 21, 3)) (kk : A X k n (pc + 3) ls (.ref (xlay X (r + 3)) :: st) w) : A X k n pc ls (.ref (xlay X r) :: st) w := a_get hX (klt hk0 (by decide)) (adr_lt (kd_lt hk0 (by decide))) (cell_1 hk0) rfl inU_X1 (j := 2) (by decide) fl_X1_21 rfl rfl hd kk
theorem fl_X1_24 : Cond.fieldLink RX1 24 "TermReckoner$File" "told" "[I" ∈ wU := mw (i := 141) (by decide +kernel) (by decide +kernel)
theorem gf_X1_24 {r : Nat} (hk0 : kd r = 1) (hX : Kx X cc RX1 nL d) (hd : decode cc pc = .ok (.getfield 24, 3)) (kk : A X k n (pc + 3) ls (.ref (xlay X (r + 4)) :: st) w) : A X k n pc ls (.ref (xlay X r) :: st) w := a_get hX (klt hk0 (by decide)) (adr_lt (kd_lt hk0 (by decide))) (cell_1 hk0) rfl inU_X1 (j := 3) (by decide) fl_X1_24 rfl rfl hd kk
theorem fl_X1_27 : Cond.fieldLink RX1 27 "TermReckoner$File" "granted" "I" ∈ wU := mw (i := 142) (by decide +kernel) (by decide +kernel)
theorem pf_X1_27 {v : Int32} {r : Nat} (hk0 : kd r = 1) (hX : Kx X cc RX1 nL d) (hd : decode cc pc = .ok (.putfield 27, 3)) (kk : A X k n (pc + 3) ls st (wset w r 4 v)) : A X k n pc ls (.int v :: .ref (xlay X r) :: st) w := a_put tyX1 hX (klt hk0 (by decide)) (adr_lt (kd_lt hk0 (by decide))) (cell_1 hk0) rfl inU_X1 tyX1_ok nmX1 (j := 4) (by decide) fl_X1_27 rfl rfl rfl (Nat.le_of_ble_eq_true rfl) (by simp [cellF, hk0, modelFs, upd]) hd kk
theorem fl_X1_74 : Cond.fieldLink RX1 74 "TermReckoner$Place" "from" "I" ∈ wU := mw (i := 94) (by decide +kernel) (by decide +kernel)
theorem gf_X1_74 {r : Nat} (hk0 : kd r = 2) (hX : Kx X cc RX1 nL d) (hd : decode cc pc = .ok (.getfield 74, 3)) (kk : A X k n (pc + 3) ls (.int (w.1 r 1) :: st) w) : A X k n pc ls (.ref (xlay X r) :: st) w := a_get hX (klt hk0 (by decide)) (adr_lt (kd_lt hk0 (by decide))) (cell_2 hk0) rfl inU_X2 (j := 1) (by decide) fl_X1_74 rfl rfl hd kk
theorem fl_X1_77 : Cond.fieldLink RX1 77 "TermReckoner$Place" "to" "I" ∈ wU := mw (i := 98) (by decide +kernel) (by decide +kernel)
theorem gf_X1_77 {r : Nat} (hk0 : kd r = 2) (hX : Kx X cc RX1 nL d) (hd : decode cc pc = .ok (.getfield 77, 3)) (kk : A X k n (pc + 3) ls (.int (w.1 r 2) :: st) w) : A X k n pc ls (.ref (xlay X r) :: st) w := a_get hX (klt hk0 (by decide)) (adr_lt (kd_lt hk0 (by decide))) (cell_2 hk0) rfl inU_X2 (j := 2) (by decide) fl_X1_77 rfl rfl hd kk
theorem fl_X2_9 : Cond.fieldLink RX2 9 "TermReckoner$Place" "kind" "I" ∈ wU := mw (i := 87) (by decide +kernel) (by decide +kernel)
theorem gf_X2_9 {r : Nat} (hk0 : kd r = 2) (hX : Kx X cc RX2 nL d) (hd : decode cc pc = .ok (.getfield 9, 3)) (kk : A X k n (pc + 3) ls (.int (w.1 r 0) :: st) w) : A X k n pc ls (.ref (xlay X r) :: st) w := a_get hX (klt hk0 (by decide)) (adr_lt (kd_lt hk0 (by decide))) (cell_2 hk0) rfl inU_X2 (j := 0) (by decide) fl_X2_9 rfl rfl hd kk
theorem pf_X2_9 {v : Int32} {r : Nat} (hk0 : kd r = 2) (hX : Kx X cc RX2 nL d) (hd : decode cc pc = .ok (.putfield 9, 3)) (kk : A X k n (pc + 3) ls st (wset w r 0 v)) : A X k n pc ls (.int v :: .ref (xlay X r) :: st) w := a_put tyX2 hX (klt hk0 (by decide)) (adr_lt (kd_lt hk0 (by decide))) (cell_2 hk0) rfl inU_X2 tyX2_ok nmX2 (j := 0) (by decide) fl_X2_9 rfl rfl rfl (Nat.le_of_ble_eq_true rfl) (by simp [cellF, hk0, modelFs, upd]) hd kk
theorem fl_X2_15 : Cond.fieldLink RX2 15 "TermReckoner$Place" "from" "I" ∈ wU := mw (i := 91) (by decide +kernel) (by decide +kernel)
theorem pf_X2_15 {v : Int32} {r : Nat} (hk0 : kd r = 2) (hX : Kx X cc RX2 nL d) (hd : decode cc pc = .ok (.putfield 15, 3)) (kk : A X k n (pc + 3) ls st (wset w r 1 v)) : A X k n pc ls (.int v :: .ref (xlay X r) :: st) w := a_put tyX2 hX (klt hk0 (by decide)) (adr_lt (kd_lt hk0 (by decide))) (cell_2 hk0) rfl inU_X2 tyX2_ok nmX2 (j := 1) (by decide) fl_X2_15 rfl rfl rfl (Nat.le_of_ble_eq_true rfl) (by simp [cellF, hk0, modelFs, upd]) hd kk
theorem fl_X2_18 : Cond.fieldLink RX2 18 "TermReckoner$Place" "to" "I" ∈ wU := mw (i := 95) (by decide +kernel) (by decide +kernel)
theorem pf_X2_18 {v : Int32} {r : Nat} (hk0 : kd r = 2) (hX : Kx X cc RX2 nL d) (hd : decode cc pc = .ok (.putfield 18, 3)) (kk : A X k n (pc + 3) ls st (wset w r 2 v)) : A X k n pc ls (.int v :: .ref (xlay X r) :: st) w := a_put tyX2 hX (klt hk0 (by decide)) (adr_lt (kd_lt hk0 (by decide))) (cell_2 hk0) rfl inU_X2 tyX2_ok nmX2 (j := 2) (by decide) fl_X2_18 rfl rfl rfl (Nat.le_of_ble_eq_true rfl) (by simp [cellF, hk0, modelFs, upd]) hd kk
theorem fl_X2_21 : Cond.fieldLink RX2 21 "TermReckoner$Place" "need" "I" ∈ wU := mw (i := 99) (by decide +kernel) (by decide +kernel)
theorem gf_X2_21 {r : Nat} (hk0 : kd r = 2) (hX : Kx X cc RX2 nL d) (hd : decode cc pc = .ok (.getfield 21, 3)) (kk : A X k n (pc + 3) ls (.int (w.1 r 3) :: st) w) : A X k n pc ls (.ref (xlay X r) :: st) w := a_get hX (klt hk0 (by decide)) (adr_lt (kd_lt hk0 (by decide))) (cell_2 hk0) rfl inU_X2 (j := 3) (by decide) fl_X2_21 rfl rfl hd kk
theorem pf_X2_21 {v : Int32} {r : Nat} (hk0 : kd r = 2) (hX : Kx X cc RX2 nL d) (hd : decode cc pc = .ok (.putfield 21, 3)) (kk : A X k n (pc + 3) ls st (wset w r 3 v)) : A X k n pc ls (.int v :: .ref (xlay X r) :: st) w := a_put tyX2 hX (klt hk0 (by decide)) (adr_lt (kd_lt hk0 (by decide))) (cell_2 hk0) rfl inU_X2 tyX2_ok nmX2 (j := 3) (by decide) fl_X2_21 rfl rfl rfl (Nat.le_of_ble_eq_true rfl) (by simp [cellF, hk0, modelFs, upd]) hd kk
theorem fl_X2_24 : Cond.fieldLink RX2 24 "TermReckoner$Place" "set" "I" ∈ wU := mw (i := 102) (by decide +kernel) (by decide +kernel)
theorem gf_X2_24 {r : Nat} (hk0 : kd r = 2) (hX : Kx X cc RX2 nL d) (hd : decode cc pc = .ok (.getfield 24, 3)) (kk : A X k n (pc + 3) ls (.int (w.1 r 4) :: st) w) : A X k n pc ls (.ref (xlay X r) :: st) w := a_get hX (klt hk0 (by decide)) (adr_lt (kd_lt hk0 (by decide))) (cell_2 hk0) rfl inU_X2 (j := 4) (by decide) fl_X2_24 rfl rfl hd kk
theorem pf_X2_24 {v : Int32} {r : Nat} (hk0 : kd r = 2) (hX : Kx X cc RX2 nL d) (hd : decode cc pc = .ok (.putfield 24, 3)) (kk : A X k n (pc + 3) ls st (wset w r 4 v)) : A X k n pc ls (.int v :: .ref (xlay X r) :: st) w := a_put tyX2 hX (klt hk0 (by decide)) (adr_lt (kd_lt hk0 (by decide))) (cell_2 hk0) rfl inU_X2 tyX2_ok nmX2 (j := 4) (by decide) fl_X2_24 rfl rfl rfl (Nat.le_of_ble_eq_true rfl) (by simp [cellF, hk0, modelFs, upd]) hd kk
theorem fl_X2_27 : Cond.fieldLink RX2 27 "TermReckoner$Place" "quashedBy" "I" ∈ wU := mw (i := 106) (by decide +kernel) (by decide +kernel)
theorem gf_X2_27 {r : Nat} (hk0 : kd r = 2) (hX : Kx X cc RX2 nL d) (hd : decode cc pc = .ok (.getfield 27, 3)) (kk : A X k n (pc + 3) ls (.int (w.1 r 5) :: st) w) : A X k n pc ls (.ref (xlay X r) :: st) w := a_get hX (klt hk0 (by decide)) (adr_lt (kd_lt hk0 (by decide))) (cell_2 hk0) rfl inU_X2 (j := 5) (by decide) fl_X2_27 rfl rfl hd kk
theorem pf_X2_27 {v : Int32} {r : Nat} (hk0 : kd r = 2) (hX : Kx X cc RX2 nL d) (hd : decode cc pc = .ok (.putfield 27, 3)) (kk : A X k n (pc + 3) ls st (wset w r 5 v)) : A X k n pc ls (.int v :: .ref (xlay X r) :: st) w := a_put tyX2 hX (klt hk0 (by decide)) (adr_lt (kd_lt hk0 (by decide))) (cell_2 hk0) rfl inU_X2 tyX2_ok nmX2 (j := 5) (by decide) fl_X2_27 rfl rfl rfl (Nat.le_of_ble_eq_true rfl) (by simp [cellF, hk0, modelFs, upd]) hd kk
theorem fl_X2_30 : Cond.fieldLink RX2 30 "TermReckoner$Place" "every" "I" ∈ wU := mw (i := 109) (by decide +kernel) (by decide +kernel)
theorem pf_X2_30 {v : Int32} {r : Nat} (hk0 : kd r = 2) (hX : Kx X cc RX2 nL d) (hd : decode cc pc = .ok (.putfield 30, 3)) (kk : A X k n (pc + 3) ls st (wset w r 6 v)) : A X k n pc ls (.int v :: .ref (xlay X r) :: st) w := a_put tyX2 hX (klt hk0 (by decide)) (adr_lt (kd_lt hk0 (by decide))) (cell_2 hk0) rfl inU_X2 tyX2_ok nmX2 (j := 6) (by decide) fl_X2_30 rfl rfl rfl (Nat.le_of_ble_eq_true rfl) (by simp [cellF, hk0, modelFs, upd]) hd kk
theorem fl_X2_33 : Cond.fieldLink RX2 33 "TermReckoner$Place" "left" "I" ∈ wU := mw (i := 112) (by decide +kernel) (by decide +kernel)
theorem gf_X2_33 {r : Nat} (hk0 : kd r = 2) (hX : Kx X cc RX2 nL d) (hd : decode cc pc = .ok (.getfield 33, 3)) (kk : A X k n (pc + 3) ls (.int (w.1 r 7) :: st) w) : A X k n pc ls (.ref (xlay X r) :: st) w := a_get hX (klt hk0 (by decide)) (adr_lt (kd_lt hk0 (by decide))) (cell_2 hk0) rfl inU_X2 (j := 7) (by decide) fl_X2_33 rfl rfl hd kk
theorem pf_X2_33 {v : Int32} {r : Nat} (hk0 : kd r = 2) (hX : Kx X cc RX2 nL d) (hd : decode cc pc = .ok (.putfield 33, 3)) (kk : A X k n (pc + 3) ls st (wset w r 7 v)) : A X k n pc ls (.int v :: .ref (xlay X r) :: st) w := a_put tyX2 hX (klt hk0 (by decide)) (adr_lt (kd_lt hk0 (by decide))) (cell_2 hk0) rfl inU_X2 tyX2_ok nmX2 (j := 7) (by decide) fl_X2_33 rfl rfl rfl (Nat.le_of_ble_eq_true rfl) (by simp [cellF, hk0, modelFs, upd]) hd kk
theorem fl_X2_36 : Cond.fieldLink RX2 36 "TermReckoner$Place" "given" "I" ∈ wU := mw (i := 114) (by decide +kernel) (by decide +kernel)
theorem pf_X2_36 {v : Int32} {r : Nat} (hk0 : kd r = 2) (hX : Kx X cc RX2 nL d) (hd : decode cc pc = .ok (.putfield 36, 3)) (kk : A X k n (pc + 3) ls st (wset w r 8 v)) : A X k n pc ls (.int v :: .ref (xlay X r) :: st) w := a_put tyX2 hX (klt hk0 (by decide)) (adr_lt (kd_lt hk0 (by decide))) (cell_2 hk0) rfl inU_X2 tyX2_ok nmX2 (j := 8) (by decide) fl_X2_36 rfl rfl rfl (Nat.le_of_ble_eq_true rfl) (by simp [cellF, hk0, modelFs, upd]) hd kk
theorem fl_X3_9 : Cond.fieldLink RX3 9 "TermReckoner$Reckoning" "beginDays" "[I" ∈ wU := mw (i := 194) (by decide +kernel) (by decide +kernel)
theorem gf_X3_9 {r : Nat} (hk0 : kd r = 3) (hX : Kx X cc RX3 nL d) (hd : decode cc pc = .ok (.getfield 9, 3)) (kk : A X k n (pc + 3) ls (.ref (xlay X (r + 1)) :: st) w) : A X k n pc ls (.ref (xlay X r) :: st) w := a_get hX (klt hk0 (by decide)) (adr_lt (kd_lt hk0 (by decide))) (cell_3 hk0) rfl inU_X3 (j := 0) (by decide) fl_X3_9 rfl rfl hd kk
theorem fl_X3_15 : Cond.fieldLink RX3 15 "TermReckoner$Reckoning" "endDays" "[I" ∈ wU := mw (i := 195) (by decide +kernel) (by decide +kernel)
theorem gf_X3_15 {r : Nat} (hk0 : kd r = 3) (hX : Kx X cc RX3 nL d) (hd : decode cc pc = .ok (.getfield 15, 3)) (kk : A X k n (pc + 3) ls (.ref (xlay X (r + 2)) :: st) w) : A X k n pc ls (.ref (xlay X r) :: st) w := a_get hX (klt hk0 (by decide)) (adr_lt (kd_lt hk0 (by decide))) (cell_3 hk0) rfl inU_X3 (j := 1) (by decide) fl_X3_15 rfl rfl hd kk
theorem fl_X3_18 : Cond.fieldLink RX3 18 "TermReckoner$Reckoning" "counting" "[I" ∈ wU := mw (i := 196) (by decide +kernel) (by decide +kernel)
theorem gf_X3_18 {r : Nat} (hk0 : kd r = 3) (hX : Kx X cc RX3 nL d) (hd : decode cc pc = .ok (.getfield 18, 3)) (kk : A X k n (pc + 3) ls (.ref (xlay X (r + 3)) :: st) w) : A X k n pc ls (.ref (xlay X r) :: st) w := a_get hX (klt hk0 (by decide)) (adr_lt (kd_lt hk0 (by decide))) (cell_3 hk0) rfl inU_X3 (j := 2) (by decide) fl_X3_18 rfl rfl hd kk
theorem fl_X3_21 : Cond.fieldLink RX3 21 "TermReckoner$Reckoning" "stayed" "[I" ∈ wU := mw (i := 197) (by decide +kernel) (by decide +kernel)
theorem gf_X3_21 {r : Nat} (hk0 : kd r = 3) (hX : Kx X cc RX3 nL d) (hd : decode cc pc = .ok (.getfield 21, 3)) (kk : A X k n (pc + 3) ls (.ref (xlay X (r + 4)) :: st) w) : A X k n pc ls (.ref (xlay X r) :: st) w := a_get hX (klt hk0 (by decide)) (adr_lt (kd_lt hk0 (by decide))) (cell_3 hk0) rfl inU_X3 (j := 3) (by decide) fl_X3_21 rfl rfl hd kk
theorem fl_X3_24 : Cond.fieldLink RX3 24 "TermReckoner$Reckoning" "credited" "[I" ∈ wU := mw (i := 198) (by decide +kernel) (by decide +kernel)
theorem gf_X3_24 {r : Nat} (hk0 : kd r = 3) (hX : Kx X cc RX3 nL d) (hd : decode cc pc = .ok (.getfield 24, 3)) (kk : A X k n (pc + 3) ls (.ref (xlay X (r + 5)) :: st) w) : A X k n pc ls (.ref (xlay X r) :: st) w := a_get hX (klt hk0 (by decide)) (adr_lt (kd_lt hk0 (by decide))) (cell_3 hk0) rfl inU_X3 (j := 4) (by decide) fl_X3_24 rfl rfl hd kk
theorem fl_X3_30 : Cond.fieldLink RX3 30 "TermReckoner$Reckoning" "tally" "LTermReckoner$Tally;" ∈ wU := mw (i := 199) (by decide +kernel) (by decide +kernel)
theorem gf_X3_30 {r : Nat} (hk0 : kd r = 3) (hX : Kx X cc RX3 nL d) (hd : decode cc pc = .ok (.getfield 30, 3)) (kk : A X k n (pc + 3) ls (.ref (xlay X (r + 6)) :: st) w) : A X k n pc ls (.ref (xlay X r) :: st) w := a_get hX (klt hk0 (by decide)) (adr_lt (kd_lt hk0 (by decide))) (cell_3 hk0) rfl inU_X3 (j := 5) (by decide) fl_X3_30 rfl rfl hd kk
theorem fl_X3_34 : Cond.fieldLink RX3 34 "TermReckoner$Reckoning" "standing" "I" ∈ wU := mw (i := 200) (by decide +kernel) (by decide +kernel)
theorem gf_X3_34 {r : Nat} (hk0 : kd r = 3) (hX : Kx X cc RX3 nL d) (hd : decode cc pc = .ok (.getfield 34, 3)) (kk : A X k n (pc + 3) ls (.int (w.1 r 6) :: st) w) : A X k n pc ls (.ref (xlay X r) :: st) w := a_get hX (klt hk0 (by decide)) (adr_lt (kd_lt hk0 (by decide))) (cell_3 hk0) rfl inU_X3 (j := 6) (by decide) fl_X3_34 rfl rfl hd kk
theorem pf_X3_34 {v : Int32} {r : Nat} (hk0 : kd r = 3) (hX : Kx X cc RX3 nL d) (hd : decode cc pc = .ok (.putfield 34, 3)) (kk : A X k n (pc + 3) ls st (wset w r 6 v)) : A X k n pc ls (.int v :: .ref (xlay X r) :: st) w := a_put tyX3 hX (klt hk0 (by decide)) (adr_lt (kd_lt hk0 (by decide))) (cell_3 hk0) rfl inU_X3 tyX3_ok nmX3 (j := 6) (by decide) fl_X3_34 rfl rfl rfl (Nat.le_of_ble_eq_true rfl) (by simp [cellF, hk0, modelFs, upd]) hd kk
theorem fl_X3_59 : Cond.fieldLink RX3 59 "TermReckoner$Place" "set" "I" ∈ wU := mw (i := 104) (by decide +kernel) (by decide +kernel)
theorem gf_X3_59 {r : Nat} (hk0 : kd r = 2) (hX : Kx X cc RX3 nL d) (hd : decode cc pc = .ok (.getfield 59, 3)) (kk : A X k n (pc + 3) ls (.int (w.1 r 4) :: st) w) : A X k n pc ls (.ref (xlay X r) :: st) w := a_get hX (klt hk0 (by decide)) (adr_lt (kd_lt hk0 (by decide))) (cell_2 hk0) rfl inU_X2 (j := 4) (by decide) fl_X3_59 rfl rfl hd kk
theorem fl_X3_66 : Cond.fieldLink RX3 66 "TermReckoner$Place" "kind" "I" ∈ wU := mw (i := 88) (by decide +kernel) (by decide +kernel)
theorem gf_X3_66 {r : Nat} (hk0 : kd r = 2) (hX : Kx X cc RX3 nL d) (hd : decode cc pc = .ok (.getfield 66, 3)) (kk : A X k n (pc + 3) ls (.int (w.1 r 0) :: st) w) : A X k n pc ls (.ref (xlay X r) :: st) w := a_get hX (klt hk0 (by decide)) (adr_lt (kd_lt hk0 (by decide))) (cell_2 hk0) rfl inU_X2 (j := 0) (by decide) fl_X3_66 rfl rfl hd kk
theorem fl_X3_84 : Cond.fieldLink RX3 84 "TermReckoner$Place" "need" "I" ∈ wU := mw (i := 100) (by decide +kernel) (by decide +kernel)
theorem gf_X3_84 {r : Nat} (hk0 : kd r = 2) (hX : Kx X cc RX3 nL d) (hd : decode cc pc = .ok (.getfield 84, 3)) (kk : A X k n (pc + 3) ls (.int (w.1 r 3) :: st) w) : A X k n pc ls (.ref (xlay X r) :: st) w := a_get hX (klt hk0 (by decide)) (adr_lt (kd_lt hk0 (by decide))) (cell_2 hk0) rfl inU_X2 (j := 3) (by decide) fl_X3_84 rfl rfl hd kk
theorem fl_X3_102 : Cond.fieldLink RX3 102 "TermReckoner$Place" "from" "I" ∈ wU := mw (i := 92) (by decide +kernel) (by decide +kernel)
theorem gf_X3_102 {r : Nat} (hk0 : kd r = 2) (hX : Kx X cc RX3 nL d) (hd : decode cc pc = .ok (.getfield 102, 3)) (kk : A X k n (pc + 3) ls (.int (w.1 r 1) :: st) w) : A X k n pc ls (.ref (xlay X r) :: st) w := a_get hX (klt hk0 (by decide)) (adr_lt (kd_lt hk0 (by decide))) (cell_2 hk0) rfl inU_X2 (j := 1) (by decide) fl_X3_102 rfl rfl hd kk
theorem fl_X3_126 : Cond.fieldLink RX3 126 "TermReckoner$Place" "to" "I" ∈ wU := mw (i := 97) (by decide +kernel) (by decide +kernel)
theorem gf_X3_126 {r : Nat} (hk0 : kd r = 2) (hX : Kx X cc RX3 nL d) (hd : decode cc pc = .ok (.getfield 126, 3)) (kk : A X k n (pc + 3) ls (.int (w.1 r 2) :: st) w) : A X k n pc ls (.ref (xlay X r) :: st) w := a_get hX (klt hk0 (by decide)) (adr_lt (kd_lt hk0 (by decide))) (cell_2 hk0) rfl inU_X2 (j := 2) (by decide) fl_X3_126 rfl rfl hd kk
theorem fl_X4_11 : Cond.fieldLink RX4 11 "TermReckoner$Registry" "files" "[LTermReckoner$File;" ∈ wU := mw (i := 156) (by decide +kernel) (by decide +kernel)
theorem gf_X4_11 {r : Nat} (hk0 : kd r = 4) (hX : Kx X cc RX4 nL d) (hd : decode cc pc = .ok (.getfield 11, 3)) (kk : A X k n (pc + 3) ls (.ref (xlay X (r + 1)) :: st) w) : A X k n pc ls (.ref (xlay X r) :: st) w := a_get hX (klt hk0 (by decide)) (adr_lt (kd_lt hk0 (by decide))) (cell_4 hk0) rfl inU_X4 (j := 0) (by decide) fl_X4_11 rfl rfl hd kk
theorem fl_X4_17 : Cond.fieldLink RX4 17 "TermReckoner$Registry" "learned" "I" ∈ wU := mw (i := 157) (by decide +kernel) (by decide +kernel)
theorem gf_X4_17 {r : Nat} (hk0 : kd r = 4) (hX : Kx X cc RX4 nL d) (hd : decode cc pc = .ok (.getfield 17, 3)) (kk : A X k n (pc + 3) ls (.int (w.1 r 1) :: st) w) : A X k n pc ls (.ref (xlay X r) :: st) w := a_get hX (klt hk0 (by decide)) (adr_lt (kd_lt hk0 (by decide))) (cell_4 hk0) rfl inU_X4 (j := 1) (by decide) fl_X4_17 rfl rfl hd kk
theorem pf_X4_17 {v : Int32} {r : Nat} (hk0 : kd r = 4) (hX : Kx X cc RX4 nL d) (hd : decode cc pc = .ok (.putfield 17, 3)) (kk : A X k n (pc + 3) ls st (wset w r 1 v)) : A X k n pc ls (.int v :: .ref (xlay X r) :: st) w := a_put tyX4 hX (klt hk0 (by decide)) (adr_lt (kd_lt hk0 (by decide))) (cell_4 hk0) rfl inU_X4 tyX4_ok nmX4 (j := 1) (by decide) fl_X4_17 rfl rfl rfl (Nat.le_of_ble_eq_true rfl) (by simp [cellF, hk0, modelFs, upd]) hd kk
theorem fl_X4_34 : Cond.fieldLink RX4 34 "TermReckoner$Entry" "a" "I" ∈ wU := mw (i := 319) (by decide +kernel) (by decide +kernel)
theorem gf_X4_34 {i : Nat} (hi : i < w.2.2.1) (hX : Kx X cc RX4 nL d) (hd : decode cc pc = .ok (.getfield 34, 3)) (kk : A X k n (pc + 3) ls (.int (w.1 (248 + i) 2) :: st) w) : A X k n pc ls (.ref (w.2.2.2 i) :: st) w := a_get hX (Nat.add_lt_add_left hi 248) adr_ge (cell_0 (kd_ge i)) rfl inU_X0 (j := 2) (by decide) fl_X4_34 rfl rfl hd kk
theorem fl_X4_39 : Cond.fieldLink RX4 39 "TermReckoner$Entry" "call" "I" ∈ wU := mw (i := 317) (by decide +kernel) (by decide +kernel)
theorem gf_X4_39 {i : Nat} (hi : i < w.2.2.1) (hX : Kx X cc RX4 nL d) (hd : decode cc pc = .ok (.getfield 39, 3)) (kk : A X k n (pc + 3) ls (.int (w.1 (248 + i) 1) :: st) w) : A X k n pc ls (.ref (w.2.2.2 i) :: st) w := a_get hX (Nat.add_lt_add_left hi 248) adr_ge (cell_0 (kd_ge i)) rfl inU_X0 (j := 1) (by decide) fl_X4_39 rfl rfl hd kk
theorem fl_X4_42 : Cond.fieldLink RX4 42 "TermReckoner$Entry" "b" "I" ∈ wU := mw (i := 321) (by decide +kernel) (by decide +kernel)
theorem gf_X4_42 {i : Nat} (hi : i < w.2.2.1) (hX : Kx X cc RX4 nL d) (hd : decode cc pc = .ok (.getfield 42, 3)) (kk : A X k n (pc + 3) ls (.int (w.1 (248 + i) 3) :: st) w) : A X k n pc ls (.ref (w.2.2.2 i) :: st) w := a_get hX (Nat.add_lt_add_left hi 248) adr_ge (cell_0 (kd_ge i)) rfl inU_X0 (j := 3) (by decide) fl_X4_42 rfl rfl hd kk
theorem fl_X4_45 : Cond.fieldLink RX4 45 "TermReckoner$Entry" "c" "I" ∈ wU := mw (i := 323) (by decide +kernel) (by decide +kernel)
theorem gf_X4_45 {i : Nat} (hi : i < w.2.2.1) (hX : Kx X cc RX4 nL d) (hd : decode cc pc = .ok (.getfield 45, 3)) (kk : A X k n (pc + 3) ls (.int (w.1 (248 + i) 4) :: st) w) : A X k n pc ls (.ref (w.2.2.2 i) :: st) w := a_get hX (Nat.add_lt_add_left hi 248) adr_ge (cell_0 (kd_ge i)) rfl inU_X0 (j := 4) (by decide) fl_X4_45 rfl rfl hd kk
theorem fl_X4_48 : Cond.fieldLink RX4 48 "TermReckoner$Entry" "d" "I" ∈ wU := mw (i := 326) (by decide +kernel) (by decide +kernel)
theorem gf_X4_48 {i : Nat} (hi : i < w.2.2.1) (hX : Kx X cc RX4 nL d) (hd : decode cc pc = .ok (.getfield 48, 3)) (kk : A X k n (pc + 3) ls (.int (w.1 (248 + i) 5) :: st) w) : A X k n pc ls (.ref (w.2.2.2 i) :: st) w := a_get hX (Nat.add_lt_add_left hi 248) adr_ge (cell_0 (kd_ge i)) rfl inU_X0 (j := 5) (by decide) fl_X4_48 rfl rfl hd kk
theorem fl_X4_67 : Cond.fieldLink RX4 67 "TermReckoner$File" "granted" "I" ∈ wU := mw (i := 143) (by decide +kernel) (by decide +kernel)
theorem pf_X4_67 {v : Int32} {r : Nat} (hk0 : kd r = 1) (hX : Kx X cc RX4 nL d) (hd : decode cc pc = .ok (.putfield 67, 3)) (kk : A X k n (pc + 3) ls st (wset w r 4 v)) : A X k n pc ls (.int v :: .ref (xlay X r) :: st) w := a_put tyX1 hX (klt hk0 (by decide)) (adr_lt (kd_lt hk0 (by decide))) (cell_1 hk0) rfl inU_X1 tyX1_ok nmX1 (j := 4) (by decide) fl_X4_67 rfl rfl rfl (Nat.le_of_ble_eq_true rfl) (by simp [cellF, hk0, modelFs, upd]) hd kk
theorem fl_X4_78 : Cond.fieldLink RX4 78 "TermReckoner$Place" "kind" "I" ∈ wU := mw (i := 89) (by decide +kernel) (by decide +kernel)
theorem pf_X4_78 {v : Int32} {r : Nat} (hk0 : kd r = 2) (hX : Kx X cc RX4 nL d) (hd : decode cc pc = .ok (.putfield 78, 3)) (kk : A X k n (pc + 3) ls st (wset w r 0 v)) : A X k n pc ls (.int v :: .ref (xlay X r) :: st) w := a_put tyX2 hX (klt hk0 (by decide)) (adr_lt (kd_lt hk0 (by decide))) (cell_2 hk0) rfl inU_X2 tyX2_ok nmX2 (j := 0) (by decide) fl_X4_78 rfl rfl rfl (Nat.le_of_ble_eq_true rfl) (by simp [cellF, hk0, modelFs, upd]) hd kk
theorem fl_X4_87 : Cond.fieldLink RX4 87 "TermReckoner$Entry" "need" "I" ∈ wU := mw (i := 335) (by decide +kernel) (by decide +kernel)
theorem gf_X4_87 {i : Nat} (hi : i < w.2.2.1) (hX : Kx X cc RX4 nL d) (hd : decode cc pc = .ok (.getfield 87, 3)) (kk : A X k n (pc + 3) ls (.int (w.1 (248 + i) 8) :: st) w) : A X k n pc ls (.ref (w.2.2.2 i) :: st) w := a_get hX (Nat.add_lt_add_left hi 248) adr_ge (cell_0 (kd_ge i)) rfl inU_X0 (j := 8) (by decide) fl_X4_87 rfl rfl hd kk
theorem fl_X4_90 : Cond.fieldLink RX4 90 "TermReckoner$Place" "from" "I" ∈ wU := mw (i := 93) (by decide +kernel) (by decide +kernel)
theorem pf_X4_90 {v : Int32} {r : Nat} (hk0 : kd r = 2) (hX : Kx X cc RX4 nL d) (hd : decode cc pc = .ok (.putfield 90, 3)) (kk : A X k n (pc + 3) ls st (wset w r 1 v)) : A X k n pc ls (.int v :: .ref (xlay X r) :: st) w := a_put tyX2 hX (klt hk0 (by decide)) (adr_lt (kd_lt hk0 (by decide))) (cell_2 hk0) rfl inU_X2 tyX2_ok nmX2 (j := 1) (by decide) fl_X4_90 rfl rfl rfl (Nat.le_of_ble_eq_true rfl) (by simp [cellF, hk0, modelFs, upd]) hd kk
theorem fl_X4_93 : Cond.fieldLink RX4 93 "TermReckoner$Entry" "e" "I" ∈ wU := mw (i := 329) (by decide +kernel) (by decide +kernel)
theorem gf_X4_93 {i : Nat} (hi : i < w.2.2.1) (hX : Kx X cc RX4 nL d) (hd : decode cc pc = .ok (.getfield 93, 3)) (kk : A X k n (pc + 3) ls (.int (w.1 (248 + i) 6) :: st) w) : A X k n pc ls (.ref (w.2.2.2 i) :: st) w := a_get hX (Nat.add_lt_add_left hi 248) adr_ge (cell_0 (kd_ge i)) rfl inU_X0 (j := 6) (by decide) fl_X4_93 rfl rfl hd kk
theorem fl_X4_96 : Cond.fieldLink RX4 96 "TermReckoner$Place" "need" "I" ∈ wU := mw (i := 101) (by decide +kernel) (by decide +kernel)
theorem pf_X4_96 {v : Int32} {r : Nat} (hk0 : kd r = 2) (hX : Kx X cc RX4 nL d) (hd : decode cc pc = .ok (.putfield 96, 3)) (kk : A X k n (pc + 3) ls st (wset w r 3 v)) : A X k n pc ls (.int v :: .ref (xlay X r) :: st) w := a_put tyX2 hX (klt hk0 (by decide)) (adr_lt (kd_lt hk0 (by decide))) (cell_2 hk0) rfl inU_X2 tyX2_ok nmX2 (j := 3) (by decide) fl_X4_96 rfl rfl rfl (Nat.le_of_ble_eq_true rfl) (by simp [cellF, hk0, modelFs, upd]) hd kk
theorem fl_X4_97 : Cond.fieldLink RX4 97 "TermReckoner$Entry" "f" "I" ∈ wU := mw (i := 332) (by decide +kernel) (by decide +kernel)
theorem gf_X4_97 {i : Nat} (hi : i < w.2.2.1) (hX : Kx X cc RX4 nL d) (hd : decode cc pc = .ok (.getfield 97, 3)) (kk : A X k n (pc + 3) ls (.int (w.1 (248 + i) 7) :: st) w) : A X k n pc ls (.ref (w.2.2.2 i) :: st) w := a_get hX (Nat.add_lt_add_left hi 248) adr_ge (cell_0 (kd_ge i)) rfl inU_X0 (j := 7) (by decide) fl_X4_97 rfl rfl hd kk
theorem fl_X4_100 : Cond.fieldLink RX4 100 "TermReckoner$Place" "set" "I" ∈ wU := mw (i := 105) (by decide +kernel) (by decide +kernel)
theorem pf_X4_100 {v : Int32} {r : Nat} (hk0 : kd r = 2) (hX : Kx X cc RX4 nL d) (hd : decode cc pc = .ok (.putfield 100, 3)) (kk : A X k n (pc + 3) ls st (wset w r 4 v)) : A X k n pc ls (.int v :: .ref (xlay X r) :: st) w := a_put tyX2 hX (klt hk0 (by decide)) (adr_lt (kd_lt hk0 (by decide))) (cell_2 hk0) rfl inU_X2 tyX2_ok nmX2 (j := 4) (by decide) fl_X4_100 rfl rfl rfl (Nat.le_of_ble_eq_true rfl) (by simp [cellF, hk0, modelFs, upd]) hd kk
theorem fl_X4_103 : Cond.fieldLink RX4 103 "TermReckoner$Place" "to" "I" ∈ wU := mw (i := 96) (by decide +kernel) (by decide +kernel)
theorem pf_X4_103 {v : Int32} {r : Nat} (hk0 : kd r = 2) (hX : Kx X cc RX4 nL d) (hd : decode cc pc = .ok (.putfield 103, 3)) (kk : A X k n (pc + 3) ls st (wset w r 2 v)) : A X k n pc ls (.int v :: .ref (xlay X r) :: st) w := a_put tyX2 hX (klt hk0 (by decide)) (adr_lt (kd_lt hk0 (by decide))) (cell_2 hk0) rfl inU_X2 tyX2_ok nmX2 (j := 2) (by decide) fl_X4_103 rfl rfl rfl (Nat.le_of_ble_eq_true rfl) (by simp [cellF, hk0, modelFs, upd]) hd kk
theorem fl_X4_110 : Cond.fieldLink RX4 110 "TermReckoner$Place" "every" "I" ∈ wU := mw (i := 111) (by decide +kernel) (by decide +kernel)
theorem pf_X4_110 {v : Int32} {r : Nat} (hk0 : kd r = 2) (hX : Kx X cc RX4 nL d) (hd : decode cc pc = .ok (.putfield 110, 3)) (kk : A X k n (pc + 3) ls st (wset w r 6 v)) : A X k n pc ls (.int v :: .ref (xlay X r) :: st) w := a_put tyX2 hX (klt hk0 (by decide)) (adr_lt (kd_lt hk0 (by decide))) (cell_2 hk0) rfl inU_X2 tyX2_ok nmX2 (j := 6) (by decide) fl_X4_110 rfl rfl rfl (Nat.le_of_ble_eq_true rfl) (by simp [cellF, hk0, modelFs, upd]) hd kk
theorem fl_X4_113 : Cond.fieldLink RX4 113 "TermReckoner$Place" "left" "I" ∈ wU := mw (i := 113) (by decide +kernel) (by decide +kernel)
theorem pf_X4_113 {v : Int32} {r : Nat} (hk0 : kd r = 2) (hX : Kx X cc RX4 nL d) (hd : decode cc pc = .ok (.putfield 113, 3)) (kk : A X k n (pc + 3) ls st (wset w r 7 v)) : A X k n pc ls (.int v :: .ref (xlay X r) :: st) w := a_put tyX2 hX (klt hk0 (by decide)) (adr_lt (kd_lt hk0 (by decide))) (cell_2 hk0) rfl inU_X2 tyX2_ok nmX2 (j := 7) (by decide) fl_X4_113 rfl rfl rfl (Nat.le_of_ble_eq_true rfl) (by simp [cellF, hk0, modelFs, upd]) hd kk
theorem fl_X4_116 : Cond.fieldLink RX4 116 "TermReckoner$Place" "given" "I" ∈ wU := mw (i := 116) (by decide +kernel) (by decide +kernel)
theorem gf_X4_116 {r : Nat} (hk0 : kd r = 2) (hX : Kx X cc RX4 nL d) (hd : decode cc pc = .ok (.getfield 116, 3)) (kk : A X k n (pc + 3) ls (.int (w.1 r 8) :: st) w) : A X k n pc ls (.ref (xlay X r) :: st) w := a_get hX (klt hk0 (by decide)) (adr_lt (kd_lt hk0 (by decide))) (cell_2 hk0) rfl inU_X2 (j := 8) (by decide) fl_X4_116 rfl rfl hd kk
theorem pf_X4_116 {v : Int32} {r : Nat} (hk0 : kd r = 2) (hX : Kx X cc RX4 nL d) (hd : decode cc pc = .ok (.putfield 116, 3)) (kk : A X k n (pc + 3) ls st (wset w r 8 v)) : A X k n pc ls (.int v :: .ref (xlay X r) :: st) w := a_put tyX2 hX (klt hk0 (by decide)) (adr_lt (kd_lt hk0 (by decide))) (cell_2 hk0) rfl inU_X2 tyX2_ok nmX2 (j := 8) (by decide) fl_X4_116 rfl rfl rfl (Nat.le_of_ble_eq_true rfl) (by simp [cellF, hk0, modelFs, upd]) hd kk
theorem fl_X4_119 : Cond.fieldLink RX4 119 "TermReckoner$Place" "quashedBy" "I" ∈ wU := mw (i := 107) (by decide +kernel) (by decide +kernel)
theorem pf_X4_119 {v : Int32} {r : Nat} (hk0 : kd r = 2) (hX : Kx X cc RX4 nL d) (hd : decode cc pc = .ok (.putfield 119, 3)) (kk : A X k n (pc + 3) ls st (wset w r 5 v)) : A X k n pc ls (.int v :: .ref (xlay X r) :: st) w := a_put tyX2 hX (klt hk0 (by decide)) (adr_lt (kd_lt hk0 (by decide))) (cell_2 hk0) rfl inU_X2 tyX2_ok nmX2 (j := 5) (by decide) fl_X4_119 rfl rfl rfl (Nat.le_of_ble_eq_true rfl) (by simp [cellF, hk0, modelFs, upd]) hd kk
theorem fl_X5_9 : Cond.fieldLink RX5 9 "TermReckoner$Ring" "places" "[I" ∈ wU := mw (i := 222) (by decide +kernel) (by decide +kernel)
theorem gf_X5_9 {r : Nat} (hk0 : kd r = 5) (hX : Kx X cc RX5 nL d) (hd : decode cc pc = .ok (.getfield 9, 3)) (kk : A X k n (pc + 3) ls (.ref (xlay X (r + 1)) :: st) w) : A X k n pc ls (.ref (xlay X r) :: st) w := a_get hX (klt hk0 (by decide)) (adr_lt (kd_lt hk0 (by decide))) (cell_5 hk0) rfl inU_X5 (j := 0) (by decide) fl_X5_9 rfl rfl hd kk
theorem fl_X5_15 : Cond.fieldLink RX5 15 "TermReckoner$Ring" "size" "I" ∈ wU := mw (i := 223) (by decide +kernel) (by decide +kernel)
theorem gf_X5_15 {r : Nat} (hk0 : kd r = 5) (hX : Kx X cc RX5 nL d) (hd : decode cc pc = .ok (.getfield 15, 3)) (kk : A X k n (pc + 3) ls (.int (w.1 r 1) :: st) w) : A X k n pc ls (.ref (xlay X r) :: st) w := a_get hX (klt hk0 (by decide)) (adr_lt (kd_lt hk0 (by decide))) (cell_5 hk0) rfl inU_X5 (j := 1) (by decide) fl_X5_15 rfl rfl hd kk
theorem pf_X5_15 {v : Int32} {r : Nat} (hk0 : kd r = 5) (hX : Kx X cc RX5 nL d) (hd : decode cc pc = .ok (.putfield 15, 3)) (kk : A X k n (pc + 3) ls st (wset w r 1 v)) : A X k n pc ls (.int v :: .ref (xlay X r) :: st) w := a_put tyX5 hX (klt hk0 (by decide)) (adr_lt (kd_lt hk0 (by decide))) (cell_5 hk0) rfl inU_X5 tyX5_ok nmX5 (j := 1) (by decide) fl_X5_15 rfl rfl rfl (Nat.le_of_ble_eq_true rfl) (by simp [cellF, hk0, modelFs, upd]) hd kk
theorem fl_X5_19 : Cond.fieldLink RX5 19 "TermReckoner$Ring" "next" "[I" ∈ wU := mw (i := 224) (by decide +kernel) (by decide +kernel)
theorem gf_X5_19 {r : Nat} (hk0 : kd r = 5) (hX : Kx X cc RX5 nL d) (hd : decode cc pc = .ok (.getfield 19, 3)) (kk : A X k n (pc + 3) ls (.ref (xlay X (r + 2)) :: st) w) : A X k n pc ls (.ref (xlay X r) :: st) w := a_get hX (klt hk0 (by decide)) (adr_lt (kd_lt hk0 (by decide))) (cell_5 hk0) rfl inU_X5 (j := 2) (by decide) fl_X5_19 rfl rfl hd kk
theorem fl_X5_22 : Cond.fieldLink RX5 22 "TermReckoner$Ring" "leads" "[I" ∈ wU := mw (i := 225) (by decide +kernel) (by decide +kernel)
theorem gf_X5_22 {r : Nat} (hk0 : kd r = 5) (hX : Kx X cc RX5 nL d) (hd : decode cc pc = .ok (.getfield 22, 3)) (kk : A X k n (pc + 3) ls (.ref (xlay X (r + 3)) :: st) w) : A X k n pc ls (.ref (xlay X r) :: st) w := a_get hX (klt hk0 (by decide)) (adr_lt (kd_lt hk0 (by decide))) (cell_5 hk0) rfl inU_X5 (j := 3) (by decide) fl_X5_22 rfl rfl hd kk
theorem fl_X5_60 : Cond.fieldLink RX5 60 "TermReckoner$Place" "set" "I" ∈ wU := mw (i := 103) (by decide +kernel) (by decide +kernel)
theorem gf_X5_60 {r : Nat} (hk0 : kd r = 2) (hX : Kx X cc RX5 nL d) (hd : decode cc pc = .ok (.getfield 60, 3)) (kk : A X k n (pc + 3) ls (.int (w.1 r 4) :: st) w) : A X k n pc ls (.ref (xlay X r) :: st) w := a_get hX (klt hk0 (by decide)) (adr_lt (kd_lt hk0 (by decide))) (cell_2 hk0) rfl inU_X2 (j := 4) (by decide) fl_X5_60 rfl rfl hd kk
theorem fl_X6_9 : Cond.fieldLink RX6 9 "TermReckoner$Tally" "every" "I" ∈ wU := mw (i := 175) (by decide +kernel) (by decide +kernel)
theorem gf_X6_9 {r : Nat} (hk0 : kd r = 6) (hX : Kx X cc RX6 nL d) (hd : decode cc pc = .ok (.getfield 9, 3)) (kk : A X k n (pc + 3) ls (.int (w.1 r 0) :: st) w) : A X k n pc ls (.ref (xlay X r) :: st) w := a_get hX (klt hk0 (by decide)) (adr_lt (kd_lt hk0 (by decide))) (cell_6 hk0) rfl inU_X6 (j := 0) (by decide) fl_X6_9 rfl rfl hd kk
theorem pf_X6_9 {v : Int32} {r : Nat} (hk0 : kd r = 6) (hX : Kx X cc RX6 nL d) (hd : decode cc pc = .ok (.putfield 9, 3)) (kk : A X k n (pc + 3) ls st (wset w r 0 v)) : A X k n pc ls (.int v :: .ref (xlay X r) :: st) w := a_put tyX6 hX (klt hk0 (by decide)) (adr_lt (kd_lt hk0 (by decide))) (cell_6 hk0) rfl inU_X6 tyX6_ok nmX6 (j := 0) (by decide) fl_X6_9 rfl rfl rfl (Nat.le_of_ble_eq_true rfl) (by simp [cellF, hk0, modelFs, upd]) hd kk
theorem fl_X6_15 : Cond.fieldLink RX6 15 "TermReckoner$Tally" "mostTaken" "I" ∈ wU := mw (i := 176) (by decide +kernel) (by decide +kernel)
theorem gf_X6_15 {r : Nat} (hk0 : kd r = 6) (hX : Kx X cc RX6 nL d) (hd : decode cc pc = .ok (.getfield 15, 3)) (kk : A X k n (pc + 3) ls (.int (w.1 r 1) :: st) w) : A X k n pc ls (.ref (xlay X r) :: st) w := a_get hX (klt hk0 (by decide)) (adr_lt (kd_lt hk0 (by decide))) (cell_6 hk0) rfl inU_X6 (j := 1) (by decide) fl_X6_15 rfl rfl hd kk
theorem pf_X6_15 {v : Int32} {r : Nat} (hk0 : kd r = 6) (hX : Kx X cc RX6 nL d) (hd : decode cc pc = .ok (.putfield 15, 3)) (kk : A X k n (pc + 3) ls st (wset w r 1 v)) : A X k n pc ls (.int v :: .ref (xlay X r) :: st) w := a_put tyX6 hX (klt hk0 (by decide)) (adr_lt (kd_lt hk0 (by decide))) (cell_6 hk0) rfl inU_X6 tyX6_ok nmX6 (j := 1) (by decide) fl_X6_15 rfl rfl rfl (Nat.le_of_ble_eq_true rfl) (by simp [cellF, hk0, modelFs, upd]) hd kk
theorem fl_X6_18 : Cond.fieldLink RX6 18 "TermReckoner$Tally" "given" "I" ∈ wU := mw (i := 177) (by decide +kernel) (by decide +kernel)
theorem gf_X6_18 {r : Nat} (hk0 : kd r = 6) (hX : Kx X cc RX6 nL d) (hd : decode cc pc = .ok (.getfield 18, 3)) (kk : A X k n (pc + 3) ls (.int (w.1 r 2) :: st) w) : A X k n pc ls (.ref (xlay X r) :: st) w := a_get hX (klt hk0 (by decide)) (adr_lt (kd_lt hk0 (by decide))) (cell_6 hk0) rfl inU_X6 (j := 2) (by decide) fl_X6_18 rfl rfl hd kk
theorem pf_X6_18 {v : Int32} {r : Nat} (hk0 : kd r = 6) (hX : Kx X cc RX6 nL d) (hd : decode cc pc = .ok (.putfield 18, 3)) (kk : A X k n (pc + 3) ls st (wset w r 2 v)) : A X k n pc ls (.int v :: .ref (xlay X r) :: st) w := a_put tyX6 hX (klt hk0 (by decide)) (adr_lt (kd_lt hk0 (by decide))) (cell_6 hk0) rfl inU_X6 tyX6_ok nmX6 (j := 2) (by decide) fl_X6_18 rfl rfl rfl (Nat.le_of_ble_eq_true rfl) (by simp [cellF, hk0, modelFs, upd]) hd kk
theorem fl_X6_21 : Cond.fieldLink RX6 21 "TermReckoner$Tally" "counted" "I" ∈ wU := mw (i := 178) (by decide +kernel) (by decide +kernel)
theorem gf_X6_21 {r : Nat} (hk0 : kd r = 6) (hX : Kx X cc RX6 nL d) (hd : decode cc pc = .ok (.getfield 21, 3)) (kk : A X k n (pc + 3) ls (.int (w.1 r 3) :: st) w) : A X k n pc ls (.ref (xlay X r) :: st) w := a_get hX (klt hk0 (by decide)) (adr_lt (kd_lt hk0 (by decide))) (cell_6 hk0) rfl inU_X6 (j := 3) (by decide) fl_X6_21 rfl rfl hd kk
theorem pf_X6_21 {v : Int32} {r : Nat} (hk0 : kd r = 6) (hX : Kx X cc RX6 nL d) (hd : decode cc pc = .ok (.putfield 21, 3)) (kk : A X k n (pc + 3) ls st (wset w r 3 v)) : A X k n pc ls (.int v :: .ref (xlay X r) :: st) w := a_put tyX6 hX (klt hk0 (by decide)) (adr_lt (kd_lt hk0 (by decide))) (cell_6 hk0) rfl inU_X6 tyX6_ok nmX6 (j := 3) (by decide) fl_X6_21 rfl rfl rfl (Nat.le_of_ble_eq_true rfl) (by simp [cellF, hk0, modelFs, upd]) hd kk
theorem fl_X6_24 : Cond.fieldLink RX6 24 "TermReckoner$Tally" "closed" "I" ∈ wU := mw (i := 179) (by decide +kernel) (by decide +kernel)
theorem gf_X6_24 {r : Nat} (hk0 : kd r = 6) (hX : Kx X cc RX6 nL d) (hd : decode cc pc = .ok (.getfield 24, 3)) (kk : A X k n (pc + 3) ls (.int (w.1 r 4) :: st) w) : A X k n pc ls (.ref (xlay X r) :: st) w := a_get hX (klt hk0 (by decide)) (adr_lt (kd_lt hk0 (by decide))) (cell_6 hk0) rfl inU_X6 (j := 4) (by decide) fl_X6_24 rfl rfl hd kk
theorem pf_X6_24 {v : Int32} {r : Nat} (hk0 : kd r = 6) (hX : Kx X cc RX6 nL d) (hd : decode cc pc = .ok (.putfield 24, 3)) (kk : A X k n (pc + 3) ls st (wset w r 4 v)) : A X k n pc ls (.int v :: .ref (xlay X r) :: st) w := a_put tyX6 hX (klt hk0 (by decide)) (adr_lt (kd_lt hk0 (by decide))) (cell_6 hk0) rfl inU_X6 tyX6_ok nmX6 (j := 4) (by decide) fl_X6_24 rfl rfl rfl (Nat.le_of_ble_eq_true rfl) (by simp [cellF, hk0, modelFs, upd]) hd kk
theorem fl_X6_27 : Cond.fieldLink RX6 27 "TermReckoner$Tally" "row" "I" ∈ wU := mw (i := 180) (by decide +kernel) (by decide +kernel)
theorem gf_X6_27 {r : Nat} (hk0 : kd r = 6) (hX : Kx X cc RX6 nL d) (hd : decode cc pc = .ok (.getfield 27, 3)) (kk : A X k n (pc + 3) ls (.int (w.1 r 5) :: st) w) : A X k n pc ls (.ref (xlay X r) :: st) w := a_get hX (klt hk0 (by decide)) (adr_lt (kd_lt hk0 (by decide))) (cell_6 hk0) rfl inU_X6 (j := 5) (by decide) fl_X6_27 rfl rfl hd kk
theorem pf_X6_27 {v : Int32} {r : Nat} (hk0 : kd r = 6) (hX : Kx X cc RX6 nL d) (hd : decode cc pc = .ok (.putfield 27, 3)) (kk : A X k n (pc + 3) ls st (wset w r 5 v)) : A X k n pc ls (.int v :: .ref (xlay X r) :: st) w := a_put tyX6 hX (klt hk0 (by decide)) (adr_lt (kd_lt hk0 (by decide))) (cell_6 hk0) rfl inU_X6 tyX6_ok nmX6 (j := 5) (by decide) fl_X6_27 rfl rfl rfl (Nat.le_of_ble_eq_true rfl) (by simp [cellF, hk0, modelFs, upd]) hd kk
theorem fl_X6_30 : Cond.fieldLink RX6 30 "TermReckoner$Place" "every" "I" ∈ wU := mw (i := 110) (by decide +kernel) (by decide +kernel)
theorem gf_X6_30 {r : Nat} (hk0 : kd r = 2) (hX : Kx X cc RX6 nL d) (hd : decode cc pc = .ok (.getfield 30, 3)) (kk : A X k n (pc + 3) ls (.int (w.1 r 6) :: st) w) : A X k n pc ls (.ref (xlay X r) :: st) w := a_get hX (klt hk0 (by decide)) (adr_lt (kd_lt hk0 (by decide))) (cell_2 hk0) rfl inU_X2 (j := 6) (by decide) fl_X6_30 rfl rfl hd kk
theorem fl_X6_36 : Cond.fieldLink RX6 36 "TermReckoner$Place" "given" "I" ∈ wU := mw (i := 115) (by decide +kernel) (by decide +kernel)
theorem gf_X6_36 {r : Nat} (hk0 : kd r = 2) (hX : Kx X cc RX6 nL d) (hd : decode cc pc = .ok (.getfield 36, 3)) (kk : A X k n (pc + 3) ls (.int (w.1 r 8) :: st) w) : A X k n pc ls (.ref (xlay X r) :: st) w := a_get hX (klt hk0 (by decide)) (adr_lt (kd_lt hk0 (by decide))) (cell_2 hk0) rfl inU_X2 (j := 8) (by decide) fl_X6_36 rfl rfl hd kk
theorem fl_X7_11 : Cond.fieldLink RX7 11 "TermReckoner" "log" "[LTermReckoner$Entry;" ∈ wU := mw (i := 235) (by decide +kernel) (by decide +kernel)
theorem gf_X7_11 {r : Nat} (hk0 : kd r = 7) (hX : Kx X cc RX7 nL d) (hd : decode cc pc = .ok (.getfield 11, 3)) (kk : A X k n (pc + 3) ls (.ref (xlay X 1) :: st) w) : A X k n pc ls (.ref (xlay X r) :: st) w := a_get hX (klt hk0 (by decide)) (adr_lt (kd_lt hk0 (by decide))) (cell_7 hk0) rfl inU_X7 (j := 0) (by decide) fl_X7_11 rfl rfl hd kk
theorem fl_X7_15 : Cond.fieldLink RX7 15 "TermReckoner" "entries" "I" ∈ wU := mw (i := 236) (by decide +kernel) (by decide +kernel)
theorem gf_X7_15 {r : Nat} (hk0 : kd r = 7) (hX : Kx X cc RX7 nL d) (hd : decode cc pc = .ok (.getfield 15, 3)) (kk : A X k n (pc + 3) ls (.int (w.1 r 1) :: st) w) : A X k n pc ls (.ref (xlay X r) :: st) w := a_get hX (klt hk0 (by decide)) (adr_lt (kd_lt hk0 (by decide))) (cell_7 hk0) rfl inU_X7 (j := 1) (by decide) fl_X7_15 rfl rfl hd kk
theorem pf_X7_15 {v : Int32} {r : Nat} (hk0 : kd r = 7) (hX : Kx X cc RX7 nL d) (hd : decode cc pc = .ok (.putfield 15, 3)) (kk : A X k n (pc + 3) ls st (wset w r 1 v)) : A X k n pc ls (.int v :: .ref (xlay X r) :: st) w := a_put tyX7 hX (klt hk0 (by decide)) (adr_lt (kd_lt hk0 (by decide))) (cell_7 hk0) rfl inU_X7 tyX7_ok nmX7 (j := 1) (by decide) fl_X7_15 rfl rfl rfl (Nat.le_of_ble_eq_true rfl) (by simp [cellF, hk0, modelFs, upd]) hd kk
theorem fl_X7_19 : Cond.fieldLink RX7 19 "TermReckoner" "persons" "I" ∈ wU := mw (i := 237) (by decide +kernel) (by decide +kernel)
theorem gf_X7_19 {r : Nat} (hk0 : kd r = 7) (hX : Kx X cc RX7 nL d) (hd : decode cc pc = .ok (.getfield 19, 3)) (kk : A X k n (pc + 3) ls (.int (w.1 r 2) :: st) w) : A X k n pc ls (.ref (xlay X r) :: st) w := a_get hX (klt hk0 (by decide)) (adr_lt (kd_lt hk0 (by decide))) (cell_7 hk0) rfl inU_X7 (j := 2) (by decide) fl_X7_19 rfl rfl hd kk
theorem pf_X7_19 {v : Int32} {r : Nat} (hk0 : kd r = 7) (hX : Kx X cc RX7 nL d) (hd : decode cc pc = .ok (.putfield 19, 3)) (kk : A X k n (pc + 3) ls st (wset w r 2 v)) : A X k n pc ls (.int v :: .ref (xlay X r) :: st) w := a_put tyX7 hX (klt hk0 (by decide)) (adr_lt (kd_lt hk0 (by decide))) (cell_7 hk0) rfl inU_X7 tyX7_ok nmX7 (j := 2) (by decide) fl_X7_19 rfl rfl rfl (Nat.le_of_ble_eq_true rfl) (by simp [cellF, hk0, modelFs, upd]) hd kk
theorem fl_X7_22 : Cond.fieldLink RX7 22 "TermReckoner" "today" "I" ∈ wU := mw (i := 238) (by decide +kernel) (by decide +kernel)
theorem gf_X7_22 {r : Nat} (hk0 : kd r = 7) (hX : Kx X cc RX7 nL d) (hd : decode cc pc = .ok (.getfield 22, 3)) (kk : A X k n (pc + 3) ls (.int (w.1 r 3) :: st) w) : A X k n pc ls (.ref (xlay X r) :: st) w := a_get hX (klt hk0 (by decide)) (adr_lt (kd_lt hk0 (by decide))) (cell_7 hk0) rfl inU_X7 (j := 3) (by decide) fl_X7_22 rfl rfl hd kk
theorem pf_X7_22 {v : Int32} {r : Nat} (hk0 : kd r = 7) (hX : Kx X cc RX7 nL d) (hd : decode cc pc = .ok (.putfield 22, 3)) (kk : A X k n (pc + 3) ls st (wset w r 3 v)) : A X k n pc ls (.int v :: .ref (xlay X r) :: st) w := a_put tyX7 hX (klt hk0 (by decide)) (adr_lt (kd_lt hk0 (by decide))) (cell_7 hk0) rfl inU_X7 tyX7_ok nmX7 (j := 3) (by decide) fl_X7_22 rfl rfl rfl (Nat.le_of_ble_eq_true rfl) (by simp [cellF, hk0, modelFs, upd]) hd kk
theorem fl_X7_25 : Cond.fieldLink RX7 25 "TermReckoner" "asked" "I" ∈ wU := mw (i := 239) (by decide +kernel) (by decide +kernel)
theorem gf_X7_25 {r : Nat} (hk0 : kd r = 7) (hX : Kx X cc RX7 nL d) (hd : decode cc pc = .ok (.getfield 25, 3)) (kk : A X k n (pc + 3) ls (.int (w.1 r 4) :: st) w) : A X k n pc ls (.ref (xlay X r) :: st) w := a_get hX (klt hk0 (by decide)) (adr_lt (kd_lt hk0 (by decide))) (cell_7 hk0) rfl inU_X7 (j := 4) (by decide) fl_X7_25 rfl rfl hd kk
theorem pf_X7_25 {v : Int32} {r : Nat} (hk0 : kd r = 7) (hX : Kx X cc RX7 nL d) (hd : decode cc pc = .ok (.putfield 25, 3)) (kk : A X k n (pc + 3) ls st (wset w r 4 v)) : A X k n pc ls (.int v :: .ref (xlay X r) :: st) w := a_put tyX7 hX (klt hk0 (by decide)) (adr_lt (kd_lt hk0 (by decide))) (cell_7 hk0) rfl inU_X7 tyX7_ok nmX7 (j := 4) (by decide) fl_X7_25 rfl rfl rfl (Nat.le_of_ble_eq_true rfl) (by simp [cellF, hk0, modelFs, upd]) hd kk
theorem fl_X7_31 : Cond.fieldLink RX7 31 "TermReckoner" "now" "LTermReckoner$Registry;" ∈ wU := mw (i := 240) (by decide +kernel) (by decide +kernel)
theorem gf_X7_31 {r : Nat} (hk0 : kd r = 7) (hX : Kx X cc RX7 nL d) (hd : decode cc pc = .ok (.getfield 31, 3)) (kk : A X k n (pc + 3) ls (.ref (xlay X 2) :: st) w) : A X k n pc ls (.ref (xlay X r) :: st) w := a_get hX (klt hk0 (by decide)) (adr_lt (kd_lt hk0 (by decide))) (cell_7 hk0) rfl inU_X7 (j := 5) (by decide) fl_X7_31 rfl rfl hd kk
theorem fl_X7_35 : Cond.fieldLink RX7 35 "TermReckoner" "then" "LTermReckoner$Registry;" ∈ wU := mw (i := 241) (by decide +kernel) (by decide +kernel)
theorem gf_X7_35 {r : Nat} (hk0 : kd r = 7) (hX : Kx X cc RX7 nL d) (hd : decode cc pc = .ok (.getfield 35, 3)) (kk : A X k n (pc + 3) ls (.ref (xlay X 106) :: st) w) : A X k n pc ls (.ref (xlay X r) :: st) w := a_get hX (klt hk0 (by decide)) (adr_lt (kd_lt hk0 (by decide))) (cell_7 hk0) rfl inU_X7 (j := 6) (by decide) fl_X7_35 rfl rfl hd kk
theorem fl_X7_41 : Cond.fieldLink RX7 41 "TermReckoner" "reckoning" "LTermReckoner$Reckoning;" ∈ wU := mw (i := 242) (by decide +kernel) (by decide +kernel)
theorem gf_X7_41 {r : Nat} (hk0 : kd r = 7) (hX : Kx X cc RX7 nL d) (hd : decode cc pc = .ok (.getfield 41, 3)) (kk : A X k n (pc + 3) ls (.ref (xlay X 210) :: st) w) : A X k n pc ls (.ref (xlay X r) :: st) w := a_get hX (klt hk0 (by decide)) (adr_lt (kd_lt hk0 (by decide))) (cell_7 hk0) rfl inU_X7 (j := 7) (by decide) fl_X7_41 rfl rfl hd kk
theorem fl_X7_48 : Cond.fieldLink RX7 48 "TermReckoner" "found" "LTermReckoner$Ring;" ∈ wU := mw (i := 243) (by decide +kernel) (by decide +kernel)
theorem gf_X7_48 {r : Nat} (hk0 : kd r = 7) (hX : Kx X cc RX7 nL d) (hd : decode cc pc = .ok (.getfield 48, 3)) (kk : A X k n (pc + 3) ls (.ref (xlay X 217) :: st) w) : A X k n pc ls (.ref (xlay X r) :: st) w := a_get hX (klt hk0 (by decide)) (adr_lt (kd_lt hk0 (by decide))) (cell_7 hk0) rfl inU_X7 (j := 8) (by decide) fl_X7_48 rfl rfl hd kk
theorem fl_X7_70 : Cond.fieldLink RX7 70 "TermReckoner$Entry" "c" "I" ∈ wU := mw (i := 324) (by decide +kernel) (by decide +kernel)
theorem pf_X7_70 {v : Int32} {i : Nat} (hi : i < w.2.2.1) (hX : Kx X cc RX7 nL d) (hd : decode cc pc = .ok (.putfield 70, 3)) (kk : A X k n (pc + 3) ls st (wset w (248 + i) 4 v)) : A X k n pc ls (.int v :: .ref (w.2.2.2 i) :: st) w := a_put tyX0 hX (Nat.add_lt_add_left hi 248) adr_ge (cell_0 (kd_ge i)) rfl inU_X0 tyX0_ok nmX0 (j := 4) (by decide) fl_X7_70 rfl rfl rfl (Nat.le_of_ble_eq_true rfl) (by simp [cellF, kd_ge, upd]) hd kk
theorem fl_X7_73 : Cond.fieldLink RX7 73 "TermReckoner$Entry" "d" "I" ∈ wU := mw (i := 327) (by decide +kernel) (by decide +kernel)
theorem pf_X7_73 {v : Int32} {i : Nat} (hi : i < w.2.2.1) (hX : Kx X cc RX7 nL d) (hd : decode cc pc = .ok (.putfield 73, 3)) (kk : A X k n (pc + 3) ls st (wset w (248 + i) 5 v)) : A X k n pc ls (.int v :: .ref (w.2.2.2 i) :: st) w := a_put tyX0 hX (Nat.add_lt_add_left hi 248) adr_ge (cell_0 (kd_ge i)) rfl inU_X0 tyX0_ok nmX0 (j := 5) (by decide) fl_X7_73 rfl rfl rfl (Nat.le_of_ble_eq_true rfl) (by simp [cellF, kd_ge, upd]) hd kk
theorem fl_X7_87 : Cond.fieldLink RX7 87 "TermReckoner$Entry" "e" "I" ∈ wU := mw (i := 330) (by decide +kernel) (by decide +kernel)
theorem pf_X7_87 {v : Int32} {i : Nat} (hi : i < w.2.2.1) (hX : Kx X cc RX7 nL d) (hd : decode cc pc = .ok (.putfield 87, 3)) (kk : A X k n (pc + 3) ls st (wset w (248 + i) 6 v)) : A X k n pc ls (.int v :: .ref (w.2.2.2 i) :: st) w := a_put tyX0 hX (Nat.add_lt_add_left hi 248) adr_ge (cell_0 (kd_ge i)) rfl inU_X0 tyX0_ok nmX0 (j := 6) (by decide) fl_X7_87 rfl rfl rfl (Nat.le_of_ble_eq_true rfl) (by simp [cellF, kd_ge, upd]) hd kk
theorem fl_X7_90 : Cond.fieldLink RX7 90 "TermReckoner$Entry" "f" "I" ∈ wU := mw (i := 333) (by decide +kernel) (by decide +kernel)
theorem pf_X7_90 {v : Int32} {i : Nat} (hi : i < w.2.2.1) (hX : Kx X cc RX7 nL d) (hd : decode cc pc = .ok (.putfield 90, 3)) (kk : A X k n (pc + 3) ls st (wset w (248 + i) 7 v)) : A X k n pc ls (.int v :: .ref (w.2.2.2 i) :: st) w := a_put tyX0 hX (Nat.add_lt_add_left hi 248) adr_ge (cell_0 (kd_ge i)) rfl inU_X0 tyX0_ok nmX0 (j := 7) (by decide) fl_X7_90 rfl rfl rfl (Nat.le_of_ble_eq_true rfl) (by simp [cellF, kd_ge, upd]) hd kk
theorem fl_X7_97 : Cond.fieldLink RX7 97 "TermReckoner$Place" "kind" "I" ∈ wU := mw (i := 90) (by decide +kernel) (by decide +kernel)
theorem gf_X7_97 {r : Nat} (hk0 : kd r = 2) (hX : Kx X cc RX7 nL d) (hd : decode cc pc = .ok (.getfield 97, 3)) (kk : A X k n (pc + 3) ls (.int (w.1 r 0) :: st) w) : A X k n pc ls (.ref (xlay X r) :: st) w := a_get hX (klt hk0 (by decide)) (adr_lt (kd_lt hk0 (by decide))) (cell_2 hk0) rfl inU_X2 (j := 0) (by decide) fl_X7_97 rfl rfl hd kk
theorem fl_X7_143 : Cond.fieldLink RX7 143 "TermReckoner$Place" "given" "I" ∈ wU := mw (i := 117) (by decide +kernel) (by decide +kernel)
theorem gf_X7_143 {r : Nat} (hk0 : kd r = 2) (hX : Kx X cc RX7 nL d) (hd : decode cc pc = .ok (.getfield 143, 3)) (kk : A X k n (pc + 3) ls (.int (w.1 r 8) :: st) w) : A X k n pc ls (.ref (xlay X r) :: st) w := a_get hX (klt hk0 (by decide)) (adr_lt (kd_lt hk0 (by decide))) (cell_2 hk0) rfl inU_X2 (j := 8) (by decide) fl_X7_143 rfl rfl hd kk
theorem fl_X7_154 : Cond.fieldLink RX7 154 "TermReckoner$File" "granted" "I" ∈ wU := mw (i := 144) (by decide +kernel) (by decide +kernel)
theorem gf_X7_154 {r : Nat} (hk0 : kd r = 1) (hX : Kx X cc RX7 nL d) (hd : decode cc pc = .ok (.getfield 154, 3)) (kk : A X k n (pc + 3) ls (.int (w.1 r 4) :: st) w) : A X k n pc ls (.ref (xlay X r) :: st) w := a_get hX (klt hk0 (by decide)) (adr_lt (kd_lt hk0 (by decide))) (cell_1 hk0) rfl inU_X1 (j := 4) (by decide) fl_X7_154 rfl rfl hd kk
theorem fl_X7_166 : Cond.fieldLink RX7 166 "TermReckoner$Entry" "need" "I" ∈ wU := mw (i := 336) (by decide +kernel) (by decide +kernel)
theorem pf_X7_166 {v : Int32} {i : Nat} (hi : i < w.2.2.1) (hX : Kx X cc RX7 nL d) (hd : decode cc pc = .ok (.putfield 166, 3)) (kk : A X k n (pc + 3) ls st (wset w (248 + i) 8 v)) : A X k n pc ls (.int v :: .ref (w.2.2.2 i) :: st) w := a_put tyX0 hX (Nat.add_lt_add_left hi 248) adr_ge (cell_0 (kd_ge i)) rfl inU_X0 tyX0_ok nmX0 (j := 8) (by decide) fl_X7_166 rfl rfl rfl (Nat.le_of_ble_eq_true rfl) (by simp [cellF, kd_ge, upd]) hd kk
theorem fl_X7_203 : Cond.fieldLink RX7 203 "TermReckoner$Place" "quashedBy" "I" ∈ wU := mw (i := 108) (by decide +kernel) (by decide +kernel)
theorem gf_X7_203 {r : Nat} (hk0 : kd r = 2) (hX : Kx X cc RX7 nL d) (hd : decode cc pc = .ok (.getfield 203, 3)) (kk : A X k n (pc + 3) ls (.int (w.1 r 5) :: st) w) : A X k n pc ls (.ref (xlay X r) :: st) w := a_get hX (klt hk0 (by decide)) (adr_lt (kd_lt hk0 (by decide))) (cell_2 hk0) rfl inU_X2 (j := 5) (by decide) fl_X7_203 rfl rfl hd kk
theorem fl_X7_277 : Cond.fieldLink RX7 277 "TermReckoner$Entry" "today" "I" ∈ wU := mw (i := 315) (by decide +kernel) (by decide +kernel)
theorem gf_X7_277 {i : Nat} (hi : i < w.2.2.1) (hX : Kx X cc RX7 nL d) (hd : decode cc pc = .ok (.getfield 277, 3)) (kk : A X k n (pc + 3) ls (.int (w.1 (248 + i) 0) :: st) w) : A X k n pc ls (.ref (w.2.2.2 i) :: st) w := a_get hX (Nat.add_lt_add_left hi 248) adr_ge (cell_0 (kd_ge i)) rfl inU_X0 (j := 0) (by decide) fl_X7_277 rfl rfl hd kk
theorem fl_X8_9 : Cond.fieldLink RX8 9 "TermReckonerModel" "asked" "I" ∈ wU := mw (i := 804) (by decide +kernel) (by decide +kernel)
theorem gf_X8_9 {r : Nat} (hk0 : kd r = 8) (hX : Kx X cc RX8 nL d) (hd : decode cc pc = .ok (.getfield 9, 3)) (kk : A X k n (pc + 3) ls (.int (w.1 r 1) :: st) w) : A X k n pc ls (.ref (xlay X r) :: st) w := a_get hX (klt hk0 (by decide)) (adr_lt (kd_lt hk0 (by decide))) (cell_8 hk0) rfl inU_X8 (j := 1) (by decide) fl_X8_9 rfl rfl hd kk
theorem pf_X8_9 {v : Int32} {r : Nat} (hk0 : kd r = 8) (hX : Kx X cc RX8 nL d) (hd : decode cc pc = .ok (.putfield 9, 3)) (kk : A X k n (pc + 3) ls st (wset w r 1 v)) : A X k n pc ls (.int v :: .ref (xlay X r) :: st) w := a_put tyX8 hX (klt hk0 (by decide)) (adr_lt (kd_lt hk0 (by decide))) (cell_8 hk0) rfl inU_X8 tyX8_ok nmX8 (j := 1) (by decide) fl_X8_9 rfl rfl rfl (Nat.le_of_ble_eq_true rfl) (by simp [cellF, hk0, modelFs, upd]) hd kk
theorem fl_X8_13 : Cond.fieldLink RX8 13 "TermReckonerModel" "entry" "[I" ∈ wU := mw (i := 806) (by decide +kernel) (by decide +kernel)
theorem gf_X8_13 {r : Nat} (hk0 : kd r = 8) (hX : Kx X cc RX8 nL d) (hd : decode cc pc = .ok (.getfield 13, 3)) (kk : A X k n (pc + 3) ls (.ref (xlay X 222) :: st) w) : A X k n pc ls (.ref (xlay X r) :: st) w := a_get hX (klt hk0 (by decide)) (adr_lt (kd_lt hk0 (by decide))) (cell_8 hk0) rfl inU_X8 (j := 3) (by decide) fl_X8_13 rfl rfl hd kk
theorem fl_X8_17 : Cond.fieldLink RX8 17 "TermReckonerModel" "recalled" "[I" ∈ wU := mw (i := 807) (by decide +kernel) (by decide +kernel)
theorem gf_X8_17 {r : Nat} (hk0 : kd r = 8) (hX : Kx X cc RX8 nL d) (hd : decode cc pc = .ok (.getfield 17, 3)) (kk : A X k n (pc + 3) ls (.ref (xlay X 223) :: st) w) : A X k n pc ls (.ref (xlay X r) :: st) w := a_get hX (klt hk0 (by decide)) (adr_lt (kd_lt hk0 (by decide))) (cell_8 hk0) rfl inU_X8 (j := 4) (by decide) fl_X8_17 rfl rfl hd kk
theorem fl_X8_20 : Cond.fieldLink RX8 20 "TermReckonerModel" "kind" "[I" ∈ wU := mw (i := 809) (by decide +kernel) (by decide +kernel)
theorem gf_X8_20 {r : Nat} (hk0 : kd r = 8) (hX : Kx X cc RX8 nL d) (hd : decode cc pc = .ok (.getfield 20, 3)) (kk : A X k n (pc + 3) ls (.ref (xlay X 224) :: st) w) : A X k n pc ls (.ref (xlay X r) :: st) w := a_get hX (klt hk0 (by decide)) (adr_lt (kd_lt hk0 (by decide))) (cell_8 hk0) rfl inU_X8 (j := 6) (by decide) fl_X8_20 rfl rfl hd kk
theorem fl_X8_23 : Cond.fieldLink RX8 23 "TermReckonerModel" "from" "[I" ∈ wU := mw (i := 810) (by decide +kernel) (by decide +kernel)
theorem gf_X8_23 {r : Nat} (hk0 : kd r = 8) (hX : Kx X cc RX8 nL d) (hd : decode cc pc = .ok (.getfield 23, 3)) (kk : A X k n (pc + 3) ls (.ref (xlay X 225) :: st) w) : A X k n pc ls (.ref (xlay X r) :: st) w := a_get hX (klt hk0 (by decide)) (adr_lt (kd_lt hk0 (by decide))) (cell_8 hk0) rfl inU_X8 (j := 7) (by decide) fl_X8_23 rfl rfl hd kk
theorem fl_X8_26 : Cond.fieldLink RX8 26 "TermReckonerModel" "to" "[I" ∈ wU := mw (i := 811) (by decide +kernel) (by decide +kernel)
theorem gf_X8_26 {r : Nat} (hk0 : kd r = 8) (hX : Kx X cc RX8 nL d) (hd : decode cc pc = .ok (.getfield 26, 3)) (kk : A X k n (pc + 3) ls (.ref (xlay X 226) :: st) w) : A X k n pc ls (.ref (xlay X r) :: st) w := a_get hX (klt hk0 (by decide)) (adr_lt (kd_lt hk0 (by decide))) (cell_8 hk0) rfl inU_X8 (j := 8) (by decide) fl_X8_26 rfl rfl hd kk
theorem fl_X8_29 : Cond.fieldLink RX8 29 "TermReckonerModel" "need" "[I" ∈ wU := mw (i := 812) (by decide +kernel) (by decide +kernel)
theorem gf_X8_29 {r : Nat} (hk0 : kd r = 8) (hX : Kx X cc RX8 nL d) (hd : decode cc pc = .ok (.getfield 29, 3)) (kk : A X k n (pc + 3) ls (.ref (xlay X 227) :: st) w) : A X k n pc ls (.ref (xlay X r) :: st) w := a_get hX (klt hk0 (by decide)) (adr_lt (kd_lt hk0 (by decide))) (cell_8 hk0) rfl inU_X8 (j := 9) (by decide) fl_X8_29 rfl rfl hd kk
theorem fl_X8_32 : Cond.fieldLink RX8 32 "TermReckonerModel" "set" "[I" ∈ wU := mw (i := 813) (by decide +kernel) (by decide +kernel)
theorem gf_X8_32 {r : Nat} (hk0 : kd r = 8) (hX : Kx X cc RX8 nL d) (hd : decode cc pc = .ok (.getfield 32, 3)) (kk : A X k n (pc + 3) ls (.ref (xlay X 228) :: st) w) : A X k n pc ls (.ref (xlay X r) :: st) w := a_get hX (klt hk0 (by decide)) (adr_lt (kd_lt hk0 (by decide))) (cell_8 hk0) rfl inU_X8 (j := 10) (by decide) fl_X8_32 rfl rfl hd kk
theorem fl_X8_35 : Cond.fieldLink RX8 35 "TermReckonerModel" "ruleIn" "[I" ∈ wU := mw (i := 814) (by decide +kernel) (by decide +kernel)
theorem gf_X8_35 {r : Nat} (hk0 : kd r = 8) (hX : Kx X cc RX8 nL d) (hd : decode cc pc = .ok (.getfield 35, 3)) (kk : A X k n (pc + 3) ls (.ref (xlay X 229) :: st) w) : A X k n pc ls (.ref (xlay X r) :: st) w := a_get hX (klt hk0 (by decide)) (adr_lt (kd_lt hk0 (by decide))) (cell_8 hk0) rfl inU_X8 (j := 11) (by decide) fl_X8_35 rfl rfl hd kk
theorem fl_X8_38 : Cond.fieldLink RX8 38 "TermReckonerModel" "ruleLeft" "[I" ∈ wU := mw (i := 815) (by decide +kernel) (by decide +kernel)
theorem gf_X8_38 {r : Nat} (hk0 : kd r = 8) (hX : Kx X cc RX8 nL d) (hd : decode cc pc = .ok (.getfield 38, 3)) (kk : A X k n (pc + 3) ls (.ref (xlay X 230) :: st) w) : A X k n pc ls (.ref (xlay X r) :: st) w := a_get hX (klt hk0 (by decide)) (adr_lt (kd_lt hk0 (by decide))) (cell_8 hk0) rfl inU_X8 (j := 12) (by decide) fl_X8_38 rfl rfl hd kk
theorem fl_X8_41 : Cond.fieldLink RX8 41 "TermReckonerModel" "given" "[I" ∈ wU := mw (i := 816) (by decide +kernel) (by decide +kernel)
theorem gf_X8_41 {r : Nat} (hk0 : kd r = 8) (hX : Kx X cc RX8 nL d) (hd : decode cc pc = .ok (.getfield 41, 3)) (kk : A X k n (pc + 3) ls (.ref (xlay X 231) :: st) w) : A X k n pc ls (.ref (xlay X r) :: st) w := a_get hX (klt hk0 (by decide)) (adr_lt (kd_lt hk0 (by decide))) (cell_8 hk0) rfl inU_X8 (j := 13) (by decide) fl_X8_41 rfl rfl hd kk
theorem fl_X8_44 : Cond.fieldLink RX8 44 "TermReckonerModel" "quashedBy" "[I" ∈ wU := mw (i := 817) (by decide +kernel) (by decide +kernel)
theorem gf_X8_44 {r : Nat} (hk0 : kd r = 8) (hX : Kx X cc RX8 nL d) (hd : decode cc pc = .ok (.getfield 44, 3)) (kk : A X k n (pc + 3) ls (.ref (xlay X 232) :: st) w) : A X k n pc ls (.ref (xlay X r) :: st) w := a_get hX (klt hk0 (by decide)) (adr_lt (kd_lt hk0 (by decide))) (cell_8 hk0) rfl inU_X8 (j := 14) (by decide) fl_X8_44 rfl rfl hd kk
theorem fl_X8_47 : Cond.fieldLink RX8 47 "TermReckonerModel" "month" "[I" ∈ wU := mw (i := 819) (by decide +kernel) (by decide +kernel)
theorem gf_X8_47 {r : Nat} (hk0 : kd r = 8) (hX : Kx X cc RX8 nL d) (hd : decode cc pc = .ok (.getfield 47, 3)) (kk : A X k n (pc + 3) ls (.ref (xlay X 233) :: st) w) : A X k n pc ls (.ref (xlay X r) :: st) w := a_get hX (klt hk0 (by decide)) (adr_lt (kd_lt hk0 (by decide))) (cell_8 hk0) rfl inU_X8 (j := 16) (by decide) fl_X8_47 rfl rfl hd kk
theorem fl_X8_50 : Cond.fieldLink RX8 50 "TermReckonerModel" "isWide" "[Z" ∈ wU := mw (i := 820) (by decide +kernel) (by decide +kernel)
theorem gf_X8_50 {r : Nat} (hk0 : kd r = 8) (hX : Kx X cc RX8 nL d) (hd : decode cc pc = .ok (.getfield 50, 3)) (kk : A X k n (pc + 3) ls (.ref (xlay X 234) :: st) w) : A X k n pc ls (.ref (xlay X r) :: st) w := a_get hX (klt hk0 (by decide)) (adr_lt (kd_lt hk0 (by decide))) (cell_8 hk0) rfl inU_X8 (j := 17) (by decide) fl_X8_50 rfl rfl hd kk
theorem fl_X8_54 : Cond.fieldLink RX8 54 "TermReckonerModel" "rowSize" "[I" ∈ wU := mw (i := 821) (by decide +kernel) (by decide +kernel)
theorem gf_X8_54 {r : Nat} (hk0 : kd r = 8) (hX : Kx X cc RX8 nL d) (hd : decode cc pc = .ok (.getfield 54, 3)) (kk : A X k n (pc + 3) ls (.ref (xlay X 235) :: st) w) : A X k n pc ls (.ref (xlay X r) :: st) w := a_get hX (klt hk0 (by decide)) (adr_lt (kd_lt hk0 (by decide))) (cell_8 hk0) rfl inU_X8 (j := 18) (by decide) fl_X8_54 rfl rfl hd kk
theorem fl_X8_57 : Cond.fieldLink RX8 57 "TermReckonerModel" "row" "[I" ∈ wU := mw (i := 822) (by decide +kernel) (by decide +kernel)
theorem gf_X8_57 {r : Nat} (hk0 : kd r = 8) (hX : Kx X cc RX8 nL d) (hd : decode cc pc = .ok (.getfield 57, 3)) (kk : A X k n (pc + 3) ls (.ref (xlay X 236) :: st) w) : A X k n pc ls (.ref (xlay X r) :: st) w := a_get hX (klt hk0 (by decide)) (adr_lt (kd_lt hk0 (by decide))) (cell_8 hk0) rfl inU_X8 (j := 19) (by decide) fl_X8_57 rfl rfl hd kk
theorem fl_X8_60 : Cond.fieldLink RX8 60 "TermReckonerModel" "isDone" "[Z" ∈ wU := mw (i := 823) (by decide +kernel) (by decide +kernel)
theorem gf_X8_60 {r : Nat} (hk0 : kd r = 8) (hX : Kx X cc RX8 nL d) (hd : decode cc pc = .ok (.getfield 60, 3)) (kk : A X k n (pc + 3) ls (.ref (xlay X 237) :: st) w) : A X k n pc ls (.ref (xlay X r) :: st) w := a_get hX (klt hk0 (by decide)) (adr_lt (kd_lt hk0 (by decide))) (cell_8 hk0) rfl inU_X8 (j := 20) (by decide) fl_X8_60 rfl rfl hd kk
theorem fl_X8_63 : Cond.fieldLink RX8 63 "TermReckonerModel" "beginOf" "[I" ∈ wU := mw (i := 824) (by decide +kernel) (by decide +kernel)
theorem gf_X8_63 {r : Nat} (hk0 : kd r = 8) (hX : Kx X cc RX8 nL d) (hd : decode cc pc = .ok (.getfield 63, 3)) (kk : A X k n (pc + 3) ls (.ref (xlay X 238) :: st) w) : A X k n pc ls (.ref (xlay X r) :: st) w := a_get hX (klt hk0 (by decide)) (adr_lt (kd_lt hk0 (by decide))) (cell_8 hk0) rfl inU_X8 (j := 21) (by decide) fl_X8_63 rfl rfl hd kk
theorem fl_X8_66 : Cond.fieldLink RX8 66 "TermReckonerModel" "endOf" "[I" ∈ wU := mw (i := 825) (by decide +kernel) (by decide +kernel)
theorem gf_X8_66 {r : Nat} (hk0 : kd r = 8) (hX : Kx X cc RX8 nL d) (hd : decode cc pc = .ok (.getfield 66, 3)) (kk : A X k n (pc + 3) ls (.ref (xlay X 239) :: st) w) : A X k n pc ls (.ref (xlay X r) :: st) w := a_get hX (klt hk0 (by decide)) (adr_lt (kd_lt hk0 (by decide))) (cell_8 hk0) rfl inU_X8 (j := 22) (by decide) fl_X8_66 rfl rfl hd kk
theorem fl_X8_70 : Cond.fieldLink RX8 70 "TermReckonerModel" "counts" "[Z" ∈ wU := mw (i := 826) (by decide +kernel) (by decide +kernel)
theorem gf_X8_70 {r : Nat} (hk0 : kd r = 8) (hX : Kx X cc RX8 nL d) (hd : decode cc pc = .ok (.getfield 70, 3)) (kk : A X k n (pc + 3) ls (.ref (xlay X 240) :: st) w) : A X k n pc ls (.ref (xlay X r) :: st) w := a_get hX (klt hk0 (by decide)) (adr_lt (kd_lt hk0 (by decide))) (cell_8 hk0) rfl inU_X8 (j := 23) (by decide) fl_X8_70 rfl rfl hd kk
theorem fl_X8_73 : Cond.fieldLink RX8 73 "TermReckonerModel" "countedTo" "[I" ∈ wU := mw (i := 827) (by decide +kernel) (by decide +kernel)
theorem gf_X8_73 {r : Nat} (hk0 : kd r = 8) (hX : Kx X cc RX8 nL d) (hd : decode cc pc = .ok (.getfield 73, 3)) (kk : A X k n (pc + 3) ls (.ref (xlay X 241) :: st) w) : A X k n pc ls (.ref (xlay X r) :: st) w := a_get hX (klt hk0 (by decide)) (adr_lt (kd_lt hk0 (by decide))) (cell_8 hk0) rfl inU_X8 (j := 24) (by decide) fl_X8_73 rfl rfl hd kk
theorem fl_X8_76 : Cond.fieldLink RX8 76 "TermReckonerModel" "takenTo" "[I" ∈ wU := mw (i := 828) (by decide +kernel) (by decide +kernel)
theorem gf_X8_76 {r : Nat} (hk0 : kd r = 8) (hX : Kx X cc RX8 nL d) (hd : decode cc pc = .ok (.getfield 76, 3)) (kk : A X k n (pc + 3) ls (.ref (xlay X 242) :: st) w) : A X k n pc ls (.ref (xlay X r) :: st) w := a_get hX (klt hk0 (by decide)) (adr_lt (kd_lt hk0 (by decide))) (cell_8 hk0) rfl inU_X8 (j := 25) (by decide) fl_X8_76 rfl rfl hd kk
theorem fl_X8_79 : Cond.fieldLink RX8 79 "TermReckonerModel" "way" "[I" ∈ wU := mw (i := 829) (by decide +kernel) (by decide +kernel)
theorem gf_X8_79 {r : Nat} (hk0 : kd r = 8) (hX : Kx X cc RX8 nL d) (hd : decode cc pc = .ok (.getfield 79, 3)) (kk : A X k n (pc + 3) ls (.ref (xlay X 243) :: st) w) : A X k n pc ls (.ref (xlay X r) :: st) w := a_get hX (klt hk0 (by decide)) (adr_lt (kd_lt hk0 (by decide))) (cell_8 hk0) rfl inU_X8 (j := 26) (by decide) fl_X8_79 rfl rfl hd kk
theorem fl_X8_82 : Cond.fieldLink RX8 82 "TermReckonerModel" "next" "[I" ∈ wU := mw (i := 830) (by decide +kernel) (by decide +kernel)
theorem gf_X8_82 {r : Nat} (hk0 : kd r = 8) (hX : Kx X cc RX8 nL d) (hd : decode cc pc = .ok (.getfield 82, 3)) (kk : A X k n (pc + 3) ls (.ref (xlay X 244) :: st) w) : A X k n pc ls (.ref (xlay X r) :: st) w := a_get hX (klt hk0 (by decide)) (adr_lt (kd_lt hk0 (by decide))) (cell_8 hk0) rfl inU_X8 (j := 27) (by decide) fl_X8_82 rfl rfl hd kk
theorem fl_X8_85 : Cond.fieldLink RX8 85 "TermReckonerModel" "turned" "[I" ∈ wU := mw (i := 831) (by decide +kernel) (by decide +kernel)
theorem gf_X8_85 {r : Nat} (hk0 : kd r = 8) (hX : Kx X cc RX8 nL d) (hd : decode cc pc = .ok (.getfield 85, 3)) (kk : A X k n (pc + 3) ls (.ref (xlay X 245) :: st) w) : A X k n pc ls (.ref (xlay X r) :: st) w := a_get hX (klt hk0 (by decide)) (adr_lt (kd_lt hk0 (by decide))) (cell_8 hk0) rfl inU_X8 (j := 28) (by decide) fl_X8_85 rfl rfl hd kk
theorem fl_X8_88 : Cond.fieldLink RX8 88 "TermReckonerModel" "best" "[I" ∈ wU := mw (i := 832) (by decide +kernel) (by decide +kernel)
theorem gf_X8_88 {r : Nat} (hk0 : kd r = 8) (hX : Kx X cc RX8 nL d) (hd : decode cc pc = .ok (.getfield 88, 3)) (kk : A X k n (pc + 3) ls (.ref (xlay X 246) :: st) w) : A X k n pc ls (.ref (xlay X r) :: st) w := a_get hX (klt hk0 (by decide)) (adr_lt (kd_lt hk0 (by decide))) (cell_8 hk0) rfl inU_X8 (j := 29) (by decide) fl_X8_88 rfl rfl hd kk
theorem fl_X8_91 : Cond.fieldLink RX8 91 "TermReckonerModel" "ring" "[I" ∈ wU := mw (i := 834) (by decide +kernel) (by decide +kernel)
theorem gf_X8_91 {r : Nat} (hk0 : kd r = 8) (hX : Kx X cc RX8 nL d) (hd : decode cc pc = .ok (.getfield 91, 3)) (kk : A X k n (pc + 3) ls (.ref (xlay X 247) :: st) w) : A X k n pc ls (.ref (xlay X r) :: st) w := a_get hX (klt hk0 (by decide)) (adr_lt (kd_lt hk0 (by decide))) (cell_8 hk0) rfl inU_X8 (j := 31) (by decide) fl_X8_91 rfl rfl hd kk
theorem fl_X8_94 : Cond.fieldLink RX8 94 "TermReckonerModel" "persons" "I" ∈ wU := mw (i := 805) (by decide +kernel) (by decide +kernel)
theorem gf_X8_94 {r : Nat} (hk0 : kd r = 8) (hX : Kx X cc RX8 nL d) (hd : decode cc pc = .ok (.getfield 94, 3)) (kk : A X k n (pc + 3) ls (.int (w.1 r 2) :: st) w) : A X k n pc ls (.ref (xlay X r) :: st) w := a_get hX (klt hk0 (by decide)) (adr_lt (kd_lt hk0 (by decide))) (cell_8 hk0) rfl inU_X8 (j := 2) (by decide) fl_X8_94 rfl rfl hd kk
theorem pf_X8_94 {v : Int32} {r : Nat} (hk0 : kd r = 8) (hX : Kx X cc RX8 nL d) (hd : decode cc pc = .ok (.putfield 94, 3)) (kk : A X k n (pc + 3) ls st (wset w r 2 v)) : A X k n pc ls (.int v :: .ref (xlay X r) :: st) w := a_put tyX8 hX (klt hk0 (by decide)) (adr_lt (kd_lt hk0 (by decide))) (cell_8 hk0) rfl inU_X8 tyX8_ok nmX8 (j := 2) (by decide) fl_X8_94 rfl rfl rfl (Nat.le_of_ble_eq_true rfl) (by simp [cellF, hk0, modelFs, upd]) hd kk
theorem fl_X8_97 : Cond.fieldLink RX8 97 "TermReckonerModel" "today" "I" ∈ wU := mw (i := 803) (by decide +kernel) (by decide +kernel)
theorem gf_X8_97 {r : Nat} (hk0 : kd r = 8) (hX : Kx X cc RX8 nL d) (hd : decode cc pc = .ok (.getfield 97, 3)) (kk : A X k n (pc + 3) ls (.int (w.1 r 0) :: st) w) : A X k n pc ls (.ref (xlay X r) :: st) w := a_get hX (klt hk0 (by decide)) (adr_lt (kd_lt hk0 (by decide))) (cell_8 hk0) rfl inU_X8 (j := 0) (by decide) fl_X8_97 rfl rfl hd kk
theorem pf_X8_97 {v : Int32} {r : Nat} (hk0 : kd r = 8) (hX : Kx X cc RX8 nL d) (hd : decode cc pc = .ok (.putfield 97, 3)) (kk : A X k n (pc + 3) ls st (wset w r 0 v)) : A X k n pc ls (.int v :: .ref (xlay X r) :: st) w := a_put tyX8 hX (klt hk0 (by decide)) (adr_lt (kd_lt hk0 (by decide))) (cell_8 hk0) rfl inU_X8 tyX8_ok nmX8 (j := 0) (by decide) fl_X8_97 rfl rfl rfl (Nat.le_of_ble_eq_true rfl) (by simp [cellF, hk0, modelFs, upd]) hd kk
theorem fl_X8_100 : Cond.fieldLink RX8 100 "TermReckonerModel" "grant" "I" ∈ wU := mw (i := 818) (by decide +kernel) (by decide +kernel)
theorem gf_X8_100 {r : Nat} (hk0 : kd r = 8) (hX : Kx X cc RX8 nL d) (hd : decode cc pc = .ok (.getfield 100, 3)) (kk : A X k n (pc + 3) ls (.int (w.1 r 15) :: st) w) : A X k n pc ls (.ref (xlay X r) :: st) w := a_get hX (klt hk0 (by decide)) (adr_lt (kd_lt hk0 (by decide))) (cell_8 hk0) rfl inU_X8 (j := 15) (by decide) fl_X8_100 rfl rfl hd kk
theorem pf_X8_100 {v : Int32} {r : Nat} (hk0 : kd r = 8) (hX : Kx X cc RX8 nL d) (hd : decode cc pc = .ok (.putfield 100, 3)) (kk : A X k n (pc + 3) ls st (wset w r 15 v)) : A X k n pc ls (.int v :: .ref (xlay X r) :: st) w := a_put tyX8 hX (klt hk0 (by decide)) (adr_lt (kd_lt hk0 (by decide))) (cell_8 hk0) rfl inU_X8 tyX8_ok nmX8 (j := 15) (by decide) fl_X8_100 rfl rfl rfl (Nat.le_of_ble_eq_true rfl) (by simp [cellF, hk0, modelFs, upd]) hd kk
theorem fl_X8_106 : Cond.fieldLink RX8 106 "TermReckonerModel" "entries" "I" ∈ wU := mw (i := 808) (by decide +kernel) (by decide +kernel)
theorem gf_X8_106 {r : Nat} (hk0 : kd r = 8) (hX : Kx X cc RX8 nL d) (hd : decode cc pc = .ok (.getfield 106, 3)) (kk : A X k n (pc + 3) ls (.int (w.1 r 5) :: st) w) : A X k n pc ls (.ref (xlay X r) :: st) w := a_get hX (klt hk0 (by decide)) (adr_lt (kd_lt hk0 (by decide))) (cell_8 hk0) rfl inU_X8 (j := 5) (by decide) fl_X8_106 rfl rfl hd kk
theorem pf_X8_106 {v : Int32} {r : Nat} (hk0 : kd r = 8) (hX : Kx X cc RX8 nL d) (hd : decode cc pc = .ok (.putfield 106, 3)) (kk : A X k n (pc + 3) ls st (wset w r 5 v)) : A X k n pc ls (.int v :: .ref (xlay X r) :: st) w := a_put tyX8 hX (klt hk0 (by decide)) (adr_lt (kd_lt hk0 (by decide))) (cell_8 hk0) rfl inU_X8 tyX8_ok nmX8 (j := 5) (by decide) fl_X8_106 rfl rfl rfl (Nat.le_of_ble_eq_true rfl) (by simp [cellF, hk0, modelFs, upd]) hd kk
theorem fl_X8_170 : Cond.fieldLink RX8 170 "TermReckonerModel" "bestSize" "I" ∈ wU := mw (i := 833) (by decide +kernel) (by decide +kernel)
theorem gf_X8_170 {r : Nat} (hk0 : kd r = 8) (hX : Kx X cc RX8 nL d) (hd : decode cc pc = .ok (.getfield 170, 3)) (kk : A X k n (pc + 3) ls (.int (w.1 r 30) :: st) w) : A X k n pc ls (.ref (xlay X r) :: st) w := a_get hX (klt hk0 (by decide)) (adr_lt (kd_lt hk0 (by decide))) (cell_8 hk0) rfl inU_X8 (j := 30) (by decide) fl_X8_170 rfl rfl hd kk
theorem pf_X8_170 {v : Int32} {r : Nat} (hk0 : kd r = 8) (hX : Kx X cc RX8 nL d) (hd : decode cc pc = .ok (.putfield 170, 3)) (kk : A X k n (pc + 3) ls st (wset w r 30 v)) : A X k n pc ls (.int v :: .ref (xlay X r) :: st) w := a_put tyX8 hX (klt hk0 (by decide)) (adr_lt (kd_lt hk0 (by decide))) (cell_8 hk0) rfl inU_X8 tyX8_ok nmX8 (j := 30) (by decide) fl_X8_170 rfl rfl rfl (Nat.le_of_ble_eq_true rfl) (by simp [cellF, hk0, modelFs, upd]) hd kk
theorem fl_X8_183 : Cond.fieldLink RX8 183 "TermReckonerModel" "ringSize" "I" ∈ wU := mw (i := 835) (by decide +kernel) (by decide +kernel)
theorem gf_X8_183 {r : Nat} (hk0 : kd r = 8) (hX : Kx X cc RX8 nL d) (hd : decode cc pc = .ok (.getfield 183, 3)) (kk : A X k n (pc + 3) ls (.int (w.1 r 32) :: st) w) : A X k n pc ls (.ref (xlay X r) :: st) w := a_get hX (klt hk0 (by decide)) (adr_lt (kd_lt hk0 (by decide))) (cell_8 hk0) rfl inU_X8 (j := 32) (by decide) fl_X8_183 rfl rfl hd kk
theorem pf_X8_183 {v : Int32} {r : Nat} (hk0 : kd r = 8) (hX : Kx X cc RX8 nL d) (hd : decode cc pc = .ok (.putfield 183, 3)) (kk : A X k n (pc + 3) ls st (wset w r 32 v)) : A X k n pc ls (.int v :: .ref (xlay X r) :: st) w := a_put tyX8 hX (klt hk0 (by decide)) (adr_lt (kd_lt hk0 (by decide))) (cell_8 hk0) rfl inU_X8 tyX8_ok nmX8 (j := 32) (by decide) fl_X8_183 rfl rfl rfl (Nat.le_of_ble_eq_true rfl) (by simp [cellF, hk0, modelFs, upd]) hd kk
end FIELDS
theorem ini_L : Cond.initialized RL ∈ wU := mw (i := 44) (by decide +kernel) (by decide +kernel)
theorem ini_X7 : Cond.initialized RX7 ∈ wU := mw (i := 45) (by decide +kernel) (by decide +kernel)
theorem ini_X4 : Cond.initialized RX4 ∈ wU := mw (i := 46) (by decide +kernel) (by decide +kernel)
theorem ini_X1 : Cond.initialized RX1 ∈ wU := mw (i := 47) (by decide +kernel) (by decide +kernel)
theorem ini_X2 : Cond.initialized RX2 ∈ wU := mw (i := 48) (by decide +kernel) (by decide +kernel)
theorem ini_X3 : Cond.initialized RX3 ∈ wU := mw (i := 49) (by decide +kernel) (by decide +kernel)
theorem ini_X6 : Cond.initialized RX6 ∈ wU := mw (i := 50) (by decide +kernel) (by decide +kernel)
theorem ini_X5 : Cond.initialized RX5 ∈ wU := mw (i := 51) (by decide +kernel) (by decide +kernel)
theorem ini_X8 : Cond.initialized RX8 ∈ wU := mw (i := 52) (by decide +kernel) (by decide +kernel)
theorem ini_X0 : Cond.initialized RX0 ∈ wU := mw (i := 53) (by decide +kernel) (by decide +kernel)
theorem ini_J7 : Cond.initialized RJ7 ∈ wU := mw (i := 54) (by decide +kernel) (by decide +kernel)
theorem ini_J6 : Cond.initialized RJ6 ∈ wU := mw (i := 55) (by decide +kernel) (by decide +kernel)
theorem ini_J9 : Cond.initialized RJ9 ∈ wU := mw (i := 56) (by decide +kernel) (by decide +kernel)
theorem co_X7_268 : Cond.constant RX7 268 1073741823 ∈ wU := mw (i := 395) (by decide +kernel) (by decide +kernel)
theorem co_J6_264 : Cond.constant RJ6 264 65536 ∈ wU := mw (i := 465) (by decide +kernel) (by decide +kernel)
theorem co_X3_42 : Cond.constant RX3 42 100000 ∈ wU := mw (i := 529) (by decide +kernel) (by decide +kernel)
theorem co_X1_58 : Cond.constant RX1 58 1073741823 ∈ wU := mw (i := 587) (by decide +kernel) (by decide +kernel)
theorem co_X6_53 : Cond.constant RX6 53 1073741823 ∈ wU := mw (i := 596) (by decide +kernel) (by decide +kernel)
theorem co_J6_265 : Cond.constant RJ6 265 1431655765 ∈ wU := mw (i := 638) (by decide +kernel) (by decide +kernel)
theorem co_J6_266 : Cond.constant RJ6 266 858993459 ∈ wU := mw (i := 639) (by decide +kernel) (by decide +kernel)
theorem co_J6_267 : Cond.constant RJ6 267 252645135 ∈ wU := mw (i := 640) (by decide +kernel) (by decide +kernel)
theorem co_X7_157 : Cond.constant RX7 157 100000 ∈ wU := mw (i := 652) (by decide +kernel) (by decide +kernel)
theorem co_X8_69 : Cond.constant RX8 69 43200 ∈ wU := mw (i := 802) (by decide +kernel) (by decide +kernel)
theorem mi_X0_init : MI yX0_init cX0_init 5 none 4 := ⟨mw (i := 312) (by decide +kernel) (by decide +kernel), ini_X0, by decide +kernel, by decide +kernel, by decide⟩
theorem mv_X0_init : Cond.instanceMethod yX0_init ∈ wU := mw (i := 311) (by decide +kernel) (by decide +kernel)
theorem mi_X0_number : MI yX0_number cX0_number 2 (some .int) 1 := ⟨mw (i := 773) (by decide +kernel) (by decide +kernel), ini_X0, by decide +kernel, by decide +kernel, by decide⟩
theorem mv_X0_number : Cond.instanceMethod yX0_number ∈ wU := mw (i := 771) (by decide +kernel) (by decide +kernel)
theorem se_X0_number : Cond.selects RX0 yX0_number yX0_number ∈ wU := mw (i := 772) (by decide +kernel) (by decide +kernel)
theorem mi_X1_init : MI yX1_init cX1_init 2 none 0 := ⟨mw (i := 78) (by decide +kernel) (by decide +kernel), ini_X1, by decide +kernel, by decide +kernel, by decide⟩
theorem mv_X1_init : Cond.instanceMethod yX1_init ∈ wU := mw (i := 77) (by decide +kernel) (by decide +kernel)
theorem mi_X1_wipe : MI yX1_wipe cX1_wipe 3 none 0 := ⟨mw (i := 372) (by decide +kernel) (by decide +kernel), ini_X1, by decide +kernel, by decide +kernel, by decide⟩
theorem mv_X1_wipe : Cond.instanceMethod yX1_wipe ∈ wU := mw (i := 370) (by decide +kernel) (by decide +kernel)
theorem se_X1_wipe : Cond.selects RX1 yX1_wipe yX1_wipe ∈ wU := mw (i := 371) (by decide +kernel) (by decide +kernel)
theorem mi_X1_at : MI yX1_at cX1_at 2 (some (.object "TermReckoner$Place")) 1 := ⟨mw (i := 305) (by decide +kernel) (by decide +kernel), ini_X1, by decide +kernel, by decide +kernel, by decide⟩
theorem mv_X1_at : Cond.instanceMethod yX1_at ∈ wU := mw (i := 303) (by decide +kernel) (by decide +kernel)
theorem se_X1_at : Cond.selects RX1 yX1_at yX1_at ∈ wU := mw (i := 304) (by decide +kernel) (by decide +kernel)
theorem mi_X1_isRow : MI yX1_isRow cX1_isRow 2 (some .boolean) 1 := ⟨mw (i := 490) (by decide +kernel) (by decide +kernel), ini_X1, by decide +kernel, by decide +kernel, by decide⟩
theorem mv_X1_isRow : Cond.instanceMethod yX1_isRow ∈ wU := mw (i := 488) (by decide +kernel) (by decide +kernel)
theorem se_X1_isRow : Cond.selects RX1 yX1_isRow yX1_isRow ∈ wU := mw (i := 489) (by decide +kernel) (by decide +kernel)
theorem mi_X1_fitsRow : MI yX1_fitsRow cX1_fitsRow 3 (some .boolean) 2 := ⟨mw (i := 494) (by decide +kernel) (by decide +kernel), ini_X1, by decide +kernel, by decide +kernel, by decide⟩
theorem mv_X1_fitsRow : Cond.instanceMethod yX1_fitsRow ∈ wU := mw (i := 492) (by decide +kernel) (by decide +kernel)
theorem se_X1_fitsRow : Cond.selects RX1 yX1_fitsRow yX1_fitsRow ∈ wU := mw (i := 493) (by decide +kernel) (by decide +kernel)
theorem mi_X1_rowLength : MI yX1_rowLength cX1_rowLength 2 (some .int) 1 := ⟨mw (i := 498) (by decide +kernel) (by decide +kernel), ini_X1, by decide +kernel, by decide +kernel, by decide⟩
theorem mv_X1_rowLength : Cond.instanceMethod yX1_rowLength ∈ wU := mw (i := 496) (by decide +kernel) (by decide +kernel)
theorem se_X1_rowLength : Cond.selects RX1 yX1_rowLength yX1_rowLength ∈ wU := mw (i := 497) (by decide +kernel) (by decide +kernel)
theorem mi_X1_isOpen : MI yX1_isOpen cX1_isOpen 2 (some .boolean) 1 := ⟨mw (i := 585) (by decide +kernel) (by decide +kernel), ini_X1, by decide +kernel, by decide +kernel, by decide⟩
theorem mv_X1_isOpen : Cond.instanceMethod yX1_isOpen ∈ wU := mw (i := 583) (by decide +kernel) (by decide +kernel)
theorem se_X1_isOpen : Cond.selects RX1 yX1_isOpen yX1_isOpen ∈ wU := mw (i := 584) (by decide +kernel) (by decide +kernel)
theorem mi_X1_heldDays : MI yX1_heldDays cX1_heldDays 3 (some .int) 2 := ⟨mw (i := 581) (by decide +kernel) (by decide +kernel), ini_X1, by decide +kernel, by decide +kernel, by decide⟩
theorem mv_X1_heldDays : Cond.instanceMethod yX1_heldDays ∈ wU := mw (i := 579) (by decide +kernel) (by decide +kernel)
theorem se_X1_heldDays : Cond.selects RX1 yX1_heldDays yX1_heldDays ∈ wU := mw (i := 580) (by decide +kernel) (by decide +kernel)
theorem mi_X1_isHeld : MI yX1_isHeld cX1_isHeld 3 (some .boolean) 2 := ⟨mw (i := 719) (by decide +kernel) (by decide +kernel), ini_X1, by decide +kernel, by decide +kernel, by decide⟩
theorem mv_X1_isHeld : Cond.instanceMethod yX1_isHeld ∈ wU := mw (i := 717) (by decide +kernel) (by decide +kernel)
theorem se_X1_isHeld : Cond.selects RX1 yX1_isHeld yX1_isHeld ∈ wU := mw (i := 718) (by decide +kernel) (by decide +kernel)
theorem mi_X1_isToldHeld : MI yX1_isToldHeld cX1_isToldHeld 3 (some .boolean) 1 := ⟨mw (i := 747) (by decide +kernel) (by decide +kernel), ini_X1, by decide +kernel, by decide +kernel, by decide⟩
theorem mv_X1_isToldHeld : Cond.instanceMethod yX1_isToldHeld ∈ wU := mw (i := 745) (by decide +kernel) (by decide +kernel)
theorem se_X1_isToldHeld : Cond.selects RX1 yX1_isToldHeld yX1_isToldHeld ∈ wU := mw (i := 746) (by decide +kernel) (by decide +kernel)
theorem mi_X1_leastOf : MI yX1_leastOf cX1_leastOf 6 (some .int) 3 := ⟨mw (i := 714) (by decide +kernel) (by decide +kernel), ini_X1, by decide +kernel, by decide +kernel, by decide⟩
theorem mv_X1_leastOf : Cond.instanceMethod yX1_leastOf ∈ wU := mw (i := 712) (by decide +kernel) (by decide +kernel)
theorem se_X1_leastOf : Cond.selects RX1 yX1_leastOf yX1_leastOf ∈ wU := mw (i := 713) (by decide +kernel) (by decide +kernel)
theorem mi_X1_setRow : MI yX1_setRow cX1_setRow 4 none 3 := ⟨mw (i := 388) (by decide +kernel) (by decide +kernel), ini_X1, by decide +kernel, by decide +kernel, by decide⟩
theorem mv_X1_setRow : Cond.instanceMethod yX1_setRow ∈ wU := mw (i := 386) (by decide +kernel) (by decide +kernel)
theorem se_X1_setRow : Cond.selects RX1 yX1_setRow yX1_setRow ∈ wU := mw (i := 387) (by decide +kernel) (by decide +kernel)
theorem mi_X1_setDay : MI yX1_setDay cX1_setDay 4 none 3 := ⟨mw (i := 399) (by decide +kernel) (by decide +kernel), ini_X1, by decide +kernel, by decide +kernel, by decide⟩
theorem mv_X1_setDay : Cond.instanceMethod yX1_setDay ∈ wU := mw (i := 397) (by decide +kernel) (by decide +kernel)
theorem se_X1_setDay : Cond.selects RX1 yX1_setDay yX1_setDay ∈ wU := mw (i := 398) (by decide +kernel) (by decide +kernel)
theorem mi_X1_setTorn : MI yX1_setTorn cX1_setTorn 2 none 1 := ⟨mw (i := 403) (by decide +kernel) (by decide +kernel), ini_X1, by decide +kernel, by decide +kernel, by decide⟩
theorem mv_X1_setTorn : Cond.instanceMethod yX1_setTorn ∈ wU := mw (i := 401) (by decide +kernel) (by decide +kernel)
theorem se_X1_setTorn : Cond.selects RX1 yX1_setTorn yX1_setTorn ∈ wU := mw (i := 402) (by decide +kernel) (by decide +kernel)
theorem mi_X1_copyRow : MI yX1_copyRow cX1_copyRow 4 none 3 := ⟨mw (i := 407) (by decide +kernel) (by decide +kernel), ini_X1, by decide +kernel, by decide +kernel, by decide⟩
theorem mv_X1_copyRow : Cond.instanceMethod yX1_copyRow ∈ wU := mw (i := 405) (by decide +kernel) (by decide +kernel)
theorem se_X1_copyRow : Cond.selects RX1 yX1_copyRow yX1_copyRow ∈ wU := mw (i := 406) (by decide +kernel) (by decide +kernel)
theorem mi_X2_init : MI yX2_init cX2_init 1 none 0 := ⟨mw (i := 85) (by decide +kernel) (by decide +kernel), ini_X2, by decide +kernel, by decide +kernel, by decide⟩
theorem mv_X2_init : Cond.instanceMethod yX2_init ∈ wU := mw (i := 84) (by decide +kernel) (by decide +kernel)
theorem mi_X2_wipe : MI yX2_wipe cX2_wipe 1 none 0 := ⟨mw (i := 377) (by decide +kernel) (by decide +kernel), ini_X2, by decide +kernel, by decide +kernel, by decide⟩
theorem mv_X2_wipe : Cond.instanceMethod yX2_wipe ∈ wU := mw (i := 375) (by decide +kernel) (by decide +kernel)
theorem se_X2_wipe : Cond.selects RX2 yX2_wipe yX2_wipe ∈ wU := mw (i := 376) (by decide +kernel) (by decide +kernel)
theorem mi_X2_runs : MI yX2_runs cX2_runs 1 (some .boolean) 0 := ⟨mw (i := 446) (by decide +kernel) (by decide +kernel), ini_X2, by decide +kernel, by decide +kernel, by decide⟩
theorem mv_X2_runs : Cond.instanceMethod yX2_runs ∈ wU := mw (i := 444) (by decide +kernel) (by decide +kernel)
theorem se_X2_runs : Cond.selects RX2 yX2_runs yX2_runs ∈ wU := mw (i := 445) (by decide +kernel) (by decide +kernel)
theorem mi_X2_isQuashed : MI yX2_isQuashed cX2_isQuashed 1 (some .boolean) 0 := ⟨mw (i := 477) (by decide +kernel) (by decide +kernel), ini_X2, by decide +kernel, by decide +kernel, by decide⟩
theorem mv_X2_isQuashed : Cond.instanceMethod yX2_isQuashed ∈ wU := mw (i := 475) (by decide +kernel) (by decide +kernel)
theorem se_X2_isQuashed : Cond.selects RX2 yX2_isQuashed yX2_isQuashed ∈ wU := mw (i := 476) (by decide +kernel) (by decide +kernel)
theorem mi_X2_stands : MI yX2_stands cX2_stands 1 (some .boolean) 0 := ⟨mw (i := 518) (by decide +kernel) (by decide +kernel), ini_X2, by decide +kernel, by decide +kernel, by decide⟩
theorem mv_X2_stands : Cond.instanceMethod yX2_stands ∈ wU := mw (i := 516) (by decide +kernel) (by decide +kernel)
theorem se_X2_stands : Cond.selects RX2 yX2_stands yX2_stands ∈ wU := mw (i := 517) (by decide +kernel) (by decide +kernel)
theorem mi_X2_mayHaveRule : MI yX2_mayHaveRule cX2_mayHaveRule 1 (some .boolean) 0 := ⟨mw (i := 514) (by decide +kernel) (by decide +kernel), ini_X2, by decide +kernel, by decide +kernel, by decide⟩
theorem mv_X2_mayHaveRule : Cond.instanceMethod yX2_mayHaveRule ∈ wU := mw (i := 512) (by decide +kernel) (by decide +kernel)
theorem se_X2_mayHaveRule : Cond.selects RX2 yX2_mayHaveRule yX2_mayHaveRule ∈ wU := mw (i := 513) (by decide +kernel) (by decide +kernel)
theorem mi_X2_isFor : MI yX2_isFor cX2_isFor 3 (some .boolean) 2 := ⟨mw (i := 558) (by decide +kernel) (by decide +kernel), ini_X2, by decide +kernel, by decide +kernel, by decide⟩
theorem mv_X2_isFor : Cond.instanceMethod yX2_isFor ∈ wU := mw (i := 556) (by decide +kernel) (by decide +kernel)
theorem se_X2_isFor : Cond.selects RX2 yX2_isFor yX2_isFor ∈ wU := mw (i := 557) (by decide +kernel) (by decide +kernel)
theorem mi_X2_mostTaken : MI yX2_mostTaken cX2_mostTaken 1 (some .int) 0 := ⟨mw (i := 574) (by decide +kernel) (by decide +kernel), ini_X2, by decide +kernel, by decide +kernel, by decide⟩
theorem mv_X2_mostTaken : Cond.instanceMethod yX2_mostTaken ∈ wU := mw (i := 572) (by decide +kernel) (by decide +kernel)
theorem se_X2_mostTaken : Cond.selects RX2 yX2_mostTaken yX2_mostTaken ∈ wU := mw (i := 573) (by decide +kernel) (by decide +kernel)
theorem mi_X3_init : MI yX3_init cX3_init 1 none 0 := ⟨mw (i := 167) (by decide +kernel) (by decide +kernel), ini_X3, by decide +kernel, by decide +kernel, by decide⟩
theorem mv_X3_init : Cond.instanceMethod yX3_init ∈ wU := mw (i := 166) (by decide +kernel) (by decide +kernel)
theorem mi_X3_beginOf : MI yX3_beginOf cX3_beginOf 2 (some .int) 1 := ⟨mw (i := 682) (by decide +kernel) (by decide +kernel), ini_X3, by decide +kernel, by decide +kernel, by decide⟩
theorem mv_X3_beginOf : Cond.instanceMethod yX3_beginOf ∈ wU := mw (i := 680) (by decide +kernel) (by decide +kernel)
theorem se_X3_beginOf : Cond.selects RX3 yX3_beginOf yX3_beginOf ∈ wU := mw (i := 681) (by decide +kernel) (by decide +kernel)
theorem mi_X3_endOf : MI yX3_endOf cX3_endOf 2 (some .int) 1 := ⟨mw (i := 693) (by decide +kernel) (by decide +kernel), ini_X3, by decide +kernel, by decide +kernel, by decide⟩
theorem mv_X3_endOf : Cond.instanceMethod yX3_endOf ∈ wU := mw (i := 691) (by decide +kernel) (by decide +kernel)
theorem se_X3_endOf : Cond.selects RX3 yX3_endOf yX3_endOf ∈ wU := mw (i := 692) (by decide +kernel) (by decide +kernel)
theorem mi_X3_reckon : MI yX3_reckon cX3_reckon 7 none 2 := ⟨mw (i := 528) (by decide +kernel) (by decide +kernel), ini_X3, by decide +kernel, by decide +kernel, by decide⟩
theorem mv_X3_reckon : Cond.instanceMethod yX3_reckon ∈ wU := mw (i := 526) (by decide +kernel) (by decide +kernel)
theorem se_X3_reckon : Cond.selects RX3 yX3_reckon yX3_reckon ∈ wU := mw (i := 527) (by decide +kernel) (by decide +kernel)
theorem mi_X3_reckonPlace : MI yX3_reckonPlace cX3_reckonPlace 12 none 4 := ⟨mw (i := 536) (by decide +kernel) (by decide +kernel), ini_X3, by decide +kernel, by decide +kernel, by decide⟩
theorem mv_X3_reckonPlace : Cond.instanceMethod yX3_reckonPlace ∈ wU := mw (i := 535) (by decide +kernel) (by decide +kernel)
theorem se_X3_reckonPlace : Cond.selects RX3 yX3_reckonPlace yX3_reckonPlace ∈ wU := mw (i := 12) (by decide +kernel) (by decide +kernel)
theorem mi_X3_beginBehind : MI yX3_beginBehind cX3_beginBehind 4 (some .int) 1 := ⟨mw (i := 550) (by decide +kernel) (by decide +kernel), ini_X3, by decide +kernel, by decide +kernel, by decide⟩
theorem mv_X3_beginBehind : Cond.instanceMethod yX3_beginBehind ∈ wU := mw (i := 549) (by decide +kernel) (by decide +kernel)
theorem se_X3_beginBehind : Cond.selects RX3 yX3_beginBehind yX3_beginBehind ∈ wU := mw (i := 14) (by decide +kernel) (by decide +kernel)
theorem mi_X3_beginBeside : MI yX3_beginBeside cX3_beginBeside 5 (some .int) 1 := ⟨mw (i := 540) (by decide +kernel) (by decide +kernel), ini_X3, by decide +kernel, by decide +kernel, by decide⟩
theorem mv_X3_beginBeside : Cond.instanceMethod yX3_beginBeside ∈ wU := mw (i := 539) (by decide +kernel) (by decide +kernel)
theorem se_X3_beginBeside : Cond.selects RX3 yX3_beginBeside yX3_beginBeside ∈ wU := mw (i := 13) (by decide +kernel) (by decide +kernel)
theorem mi_X3_findSpans : MI yX3_findSpans cX3_findSpans 6 none 4 := ⟨mw (i := 553) (by decide +kernel) (by decide +kernel), ini_X3, by decide +kernel, by decide +kernel, by decide⟩
theorem ms_X3_findSpans : Cond.static yX3_findSpans ∈ wU := mw (i := 552) (by decide +kernel) (by decide +kernel)
theorem mi_X3_addSpan : MI yX3_addSpan cX3_addSpan 5 none 2 := ⟨mw (i := 562) (by decide +kernel) (by decide +kernel), ini_X3, by decide +kernel, by decide +kernel, by decide⟩
theorem ms_X3_addSpan : Cond.static yX3_addSpan ∈ wU := mw (i := 561) (by decide +kernel) (by decide +kernel)
theorem mi_X3_countingIn : MI yX3_countingIn cX3_countingIn 4 (some .int) 2 := ⟨mw (i := 618) (by decide +kernel) (by decide +kernel), ini_X3, by decide +kernel, by decide +kernel, by decide⟩
theorem mv_X3_countingIn : Cond.instanceMethod yX3_countingIn ∈ wU := mw (i := 617) (by decide +kernel) (by decide +kernel)
theorem se_X3_countingIn : Cond.selects RX3 yX3_countingIn yX3_countingIn ∈ wU := mw (i := 15) (by decide +kernel) (by decide +kernel)
theorem mi_X3_doesCount : MI yX3_doesCount cX3_doesCount 3 (some .boolean) 2 := ⟨mw (i := 764) (by decide +kernel) (by decide +kernel), ini_X3, by decide +kernel, by decide +kernel, by decide⟩
theorem mv_X3_doesCount : Cond.instanceMethod yX3_doesCount ∈ wU := mw (i := 762) (by decide +kernel) (by decide +kernel)
theorem se_X3_doesCount : Cond.selects RX3 yX3_doesCount yX3_doesCount ∈ wU := mw (i := 763) (by decide +kernel) (by decide +kernel)
theorem mi_X3_countedUpTo : MI yX3_countedUpTo cX3_countedUpTo 6 (some .int) 2 := ⟨mw (i := 701) (by decide +kernel) (by decide +kernel), ini_X3, by decide +kernel, by decide +kernel, by decide⟩
theorem mv_X3_countedUpTo : Cond.instanceMethod yX3_countedUpTo ∈ wU := mw (i := 699) (by decide +kernel) (by decide +kernel)
theorem se_X3_countedUpTo : Cond.selects RX3 yX3_countedUpTo yX3_countedUpTo ∈ wU := mw (i := 700) (by decide +kernel) (by decide +kernel)
theorem mi_X3_takenUpTo : MI yX3_takenUpTo cX3_takenUpTo 6 (some .int) 3 := ⟨mw (i := 614) (by decide +kernel) (by decide +kernel), ini_X3, by decide +kernel, by decide +kernel, by decide⟩
theorem mv_X3_takenUpTo : Cond.instanceMethod yX3_takenUpTo ∈ wU := mw (i := 612) (by decide +kernel) (by decide +kernel)
theorem se_X3_takenUpTo : Cond.selects RX3 yX3_takenUpTo yX3_takenUpTo ∈ wU := mw (i := 613) (by decide +kernel) (by decide +kernel)
theorem mi_X3_fullDay : MI yX3_fullDay cX3_fullDay 3 (some .int) 0 := ⟨mw (i := 651) (by decide +kernel) (by decide +kernel), ini_X3, by decide +kernel, by decide +kernel, by decide⟩
theorem mv_X3_fullDay : Cond.instanceMethod yX3_fullDay ∈ wU := mw (i := 649) (by decide +kernel) (by decide +kernel)
theorem se_X3_fullDay : Cond.selects RX3 yX3_fullDay yX3_fullDay ∈ wU := mw (i := 650) (by decide +kernel) (by decide +kernel)
theorem mi_X3_watchedDay : MI yX3_watchedDay cX3_watchedDay 7 (some .int) 2 := ⟨mw (i := 629) (by decide +kernel) (by decide +kernel), ini_X3, by decide +kernel, by decide +kernel, by decide⟩
theorem mv_X3_watchedDay : Cond.instanceMethod yX3_watchedDay ∈ wU := mw (i := 627) (by decide +kernel) (by decide +kernel)
theorem se_X3_watchedDay : Cond.selects RX3 yX3_watchedDay yX3_watchedDay ∈ wU := mw (i := 628) (by decide +kernel) (by decide +kernel)
theorem mi_X3_dayOfCount : MI yX3_dayOfCount cX3_dayOfCount 7 (some .int) 2 := ⟨mw (i := 634) (by decide +kernel) (by decide +kernel), ini_X3, by decide +kernel, by decide +kernel, by decide⟩
theorem mv_X3_dayOfCount : Cond.instanceMethod yX3_dayOfCount ∈ wU := mw (i := 633) (by decide +kernel) (by decide +kernel)
theorem se_X3_dayOfCount : Cond.selects RX3 yX3_dayOfCount yX3_dayOfCount ∈ wU := mw (i := 16) (by decide +kernel) (by decide +kernel)
theorem mi_X3_dayOfBit : MI yX3_dayOfBit cX3_dayOfBit 4 (some .int) 2 := ⟨mw (i := 643) (by decide +kernel) (by decide +kernel), ini_X3, by decide +kernel, by decide +kernel, by decide⟩
theorem ms_X3_dayOfBit : Cond.static yX3_dayOfBit ∈ wU := mw (i := 642) (by decide +kernel) (by decide +kernel)
theorem mi_X4_init : MI yX4_init cX4_init 2 none 0 := ⟨mw (i := 71) (by decide +kernel) (by decide +kernel), ini_X4, by decide +kernel, by decide +kernel, by decide⟩
theorem mv_X4_init : Cond.instanceMethod yX4_init ∈ wU := mw (i := 70) (by decide +kernel) (by decide +kernel)
theorem mi_X4_fileOf : MI yX4_fileOf cX4_fileOf 2 (some (.object "TermReckoner$File")) 1 := ⟨mw (i := 301) (by decide +kernel) (by decide +kernel), ini_X4, by decide +kernel, by decide +kernel, by decide⟩
theorem mv_X4_fileOf : Cond.instanceMethod yX4_fileOf ∈ wU := mw (i := 299) (by decide +kernel) (by decide +kernel)
theorem se_X4_fileOf : Cond.selects RX4 yX4_fileOf yX4_fileOf ∈ wU := mw (i := 300) (by decide +kernel) (by decide +kernel)
theorem mi_X4_learnUpTo : MI yX4_learnUpTo cX4_learnUpTo 4 none 2 := ⟨mw (i := 363) (by decide +kernel) (by decide +kernel), ini_X4, by decide +kernel, by decide +kernel, by decide⟩
theorem mv_X4_learnUpTo : Cond.instanceMethod yX4_learnUpTo ∈ wU := mw (i := 361) (by decide +kernel) (by decide +kernel)
theorem se_X4_learnUpTo : Cond.selects RX4 yX4_learnUpTo yX4_learnUpTo ∈ wU := mw (i := 362) (by decide +kernel) (by decide +kernel)
theorem mi_X4_wipe : MI yX4_wipe cX4_wipe 3 none 0 := ⟨mw (i := 367) (by decide +kernel) (by decide +kernel), ini_X4, by decide +kernel, by decide +kernel, by decide⟩
theorem mv_X4_wipe : Cond.instanceMethod yX4_wipe ∈ wU := mw (i := 366) (by decide +kernel) (by decide +kernel)
theorem se_X4_wipe : Cond.selects RX4 yX4_wipe yX4_wipe ∈ wU := mw (i := 5) (by decide +kernel) (by decide +kernel)
theorem mi_X4_learn : MI yX4_learn cX4_learn 4 none 1 := ⟨mw (i := 384) (by decide +kernel) (by decide +kernel), ini_X4, by decide +kernel, by decide +kernel, by decide⟩
theorem mv_X4_learn : Cond.instanceMethod yX4_learn ∈ wU := mw (i := 383) (by decide +kernel) (by decide +kernel)
theorem se_X4_learn : Cond.selects RX4 yX4_learn yX4_learn ∈ wU := mw (i := 6) (by decide +kernel) (by decide +kernel)
theorem mi_X4_learnOfPlace : MI yX4_learnOfPlace cX4_learnOfPlace 4 none 2 := ⟨mw (i := 411) (by decide +kernel) (by decide +kernel), ini_X4, by decide +kernel, by decide +kernel, by decide⟩
theorem mv_X4_learnOfPlace : Cond.instanceMethod yX4_learnOfPlace ∈ wU := mw (i := 410) (by decide +kernel) (by decide +kernel)
theorem se_X4_learnOfPlace : Cond.selects RX4 yX4_learnOfPlace yX4_learnOfPlace ∈ wU := mw (i := 7) (by decide +kernel) (by decide +kernel)
theorem mi_X4_putTerm : MI yX4_putTerm cX4_putTerm 3 none 3 := ⟨mw (i := 415) (by decide +kernel) (by decide +kernel), ini_X4, by decide +kernel, by decide +kernel, by decide⟩
theorem ms_X4_putTerm : Cond.static yX4_putTerm ∈ wU := mw (i := 414) (by decide +kernel) (by decide +kernel)
theorem mi_X4_markQuashed : MI yX4_markQuashed cX4_markQuashed 2 none 2 := ⟨mw (i := 418) (by decide +kernel) (by decide +kernel), ini_X4, by decide +kernel, by decide +kernel, by decide⟩
theorem ms_X4_markQuashed : Cond.static yX4_markQuashed ∈ wU := mw (i := 417) (by decide +kernel) (by decide +kernel)
theorem mi_X5_init : MI yX5_init cX5_init 1 none 0 := ⟨mw (i := 220) (by decide +kernel) (by decide +kernel), ini_X5, by decide +kernel, by decide +kernel, by decide⟩
theorem mv_X5_init : Cond.instanceMethod yX5_init ∈ wU := mw (i := 219) (by decide +kernel) (by decide +kernel)
theorem mi_X5_placeAt : MI yX5_placeAt cX5_placeAt 2 (some .int) 1 := ⟨mw (i := 756) (by decide +kernel) (by decide +kernel), ini_X5, by decide +kernel, by decide +kernel, by decide⟩
theorem mv_X5_placeAt : Cond.instanceMethod yX5_placeAt ∈ wU := mw (i := 754) (by decide +kernel) (by decide +kernel)
theorem se_X5_placeAt : Cond.selects RX5 yX5_placeAt yX5_placeAt ∈ wU := mw (i := 755) (by decide +kernel) (by decide +kernel)
theorem mi_X5_closes : MI yX5_closes cX5_closes 6 (some .boolean) 3 := ⟨mw (i := 436) (by decide +kernel) (by decide +kernel), ini_X5, by decide +kernel, by decide +kernel, by decide⟩
theorem mv_X5_closes : Cond.instanceMethod yX5_closes ∈ wU := mw (i := 434) (by decide +kernel) (by decide +kernel)
theorem se_X5_closes : Cond.selects RX5 yX5_closes yX5_closes ∈ wU := mw (i := 435) (by decide +kernel) (by decide +kernel)
theorem mi_X5_findNext : MI yX5_findNext cX5_findNext 6 none 3 := ⟨mw (i := 441) (by decide +kernel) (by decide +kernel), ini_X5, by decide +kernel, by decide +kernel, by decide⟩
theorem mv_X5_findNext : Cond.instanceMethod yX5_findNext ∈ wU := mw (i := 440) (by decide +kernel) (by decide +kernel)
theorem se_X5_findNext : Cond.selects RX5 yX5_findNext yX5_findNext ∈ wU := mw (i := 8) (by decide +kernel) (by decide +kernel)
theorem mi_X5_lengthOfLeast : MI yX5_lengthOfLeast cX5_lengthOfLeast 6 (some .int) 1 := ⟨mw (i := 450) (by decide +kernel) (by decide +kernel), ini_X5, by decide +kernel, by decide +kernel, by decide⟩
theorem mv_X5_lengthOfLeast : Cond.instanceMethod yX5_lengthOfLeast ∈ wU := mw (i := 449) (by decide +kernel) (by decide +kernel)
theorem se_X5_lengthOfLeast : Cond.selects RX5 yX5_lengthOfLeast yX5_lengthOfLeast ∈ wU := mw (i := 9) (by decide +kernel) (by decide +kernel)
theorem mi_X5_findLeads : MI yX5_findLeads cX5_findLeads 5 none 2 := ⟨mw (i := 457) (by decide +kernel) (by decide +kernel), ini_X5, by decide +kernel, by decide +kernel, by decide⟩
theorem mv_X5_findLeads : Cond.instanceMethod yX5_findLeads ∈ wU := mw (i := 456) (by decide +kernel) (by decide +kernel)
theorem se_X5_findLeads : Cond.selects RX5 yX5_findLeads yX5_findLeads ∈ wU := mw (i := 10) (by decide +kernel) (by decide +kernel)
theorem mi_X5_keep : MI yX5_keep cX5_keep 5 none 2 := ⟨mw (i := 461) (by decide +kernel) (by decide +kernel), ini_X5, by decide +kernel, by decide +kernel, by decide⟩
theorem mv_X5_keep : Cond.instanceMethod yX5_keep ∈ wU := mw (i := 460) (by decide +kernel) (by decide +kernel)
theorem se_X5_keep : Cond.selects RX5 yX5_keep yX5_keep ∈ wU := mw (i := 11) (by decide +kernel) (by decide +kernel)
theorem mi_X6_init : MI yX6_init cX6_init 1 none 0 := ⟨mw (i := 173) (by decide +kernel) (by decide +kernel), ini_X6, by decide +kernel, by decide +kernel, by decide⟩
theorem mv_X6_init : Cond.instanceMethod yX6_init ∈ wU := mw (i := 172) (by decide +kernel) (by decide +kernel)
theorem mi_X6_start : MI yX6_start cX6_start 2 none 1 := ⟨mw (i := 570) (by decide +kernel) (by decide +kernel), ini_X6, by decide +kernel, by decide +kernel, by decide⟩
theorem mv_X6_start : Cond.instanceMethod yX6_start ∈ wU := mw (i := 568) (by decide +kernel) (by decide +kernel)
theorem se_X6_start : Cond.selects RX6 yX6_start yX6_start ∈ wU := mw (i := 569) (by decide +kernel) (by decide +kernel)
theorem mi_X6_takenWith : MI yX6_takenWith cX6_takenWith 2 (some .int) 1 := ⟨mw (i := 604) (by decide +kernel) (by decide +kernel), ini_X6, by decide +kernel, by decide +kernel, by decide⟩
theorem mv_X6_takenWith : Cond.instanceMethod yX6_takenWith ∈ wU := mw (i := 602) (by decide +kernel) (by decide +kernel)
theorem se_X6_takenWith : Cond.selects RX6 yX6_takenWith yX6_takenWith ∈ wU := mw (i := 603) (by decide +kernel) (by decide +kernel)
theorem mi_X6_reachedWith : MI yX6_reachedWith cX6_reachedWith 2 (some .int) 1 := ⟨mw (i := 600) (by decide +kernel) (by decide +kernel), ini_X6, by decide +kernel, by decide +kernel, by decide⟩
theorem mv_X6_reachedWith : Cond.instanceMethod yX6_reachedWith ∈ wU := mw (i := 598) (by decide +kernel) (by decide +kernel)
theorem se_X6_reachedWith : Cond.selects RX6 yX6_reachedWith yX6_reachedWith ∈ wU := mw (i := 599) (by decide +kernel) (by decide +kernel)
theorem mi_X6_addDays : MI yX6_addDays cX6_addDays 2 none 1 := ⟨mw (i := 610) (by decide +kernel) (by decide +kernel), ini_X6, by decide +kernel, by decide +kernel, by decide⟩
theorem mv_X6_addDays : Cond.instanceMethod yX6_addDays ∈ wU := mw (i := 608) (by decide +kernel) (by decide +kernel)
theorem se_X6_addDays : Cond.selects RX6 yX6_addDays yX6_addDays ∈ wU := mw (i := 609) (by decide +kernel) (by decide +kernel)
theorem mi_X6_breakRow : MI yX6_breakRow cX6_breakRow 1 none 0 := ⟨mw (i := 595) (by decide +kernel) (by decide +kernel), ini_X6, by decide +kernel, by decide +kernel, by decide⟩
theorem mv_X6_breakRow : Cond.instanceMethod yX6_breakRow ∈ wU := mw (i := 593) (by decide +kernel) (by decide +kernel)
theorem se_X6_breakRow : Cond.selects RX6 yX6_breakRow yX6_breakRow ∈ wU := mw (i := 594) (by decide +kernel) (by decide +kernel)
theorem mi_X6_addMonth : MI yX6_addMonth cX6_addMonth 4 (some .int) 2 := ⟨mw (i := 591) (by decide +kernel) (by decide +kernel), ini_X6, by decide +kernel, by decide +kernel, by decide⟩
theorem mv_X6_addMonth : Cond.instanceMethod yX6_addMonth ∈ wU := mw (i := 589) (by decide +kernel) (by decide +kernel)
theorem se_X6_addMonth : Cond.selects RX6 yX6_addMonth yX6_addMonth ∈ wU := mw (i := 590) (by decide +kernel) (by decide +kernel)
theorem mi_X7_init : MI yX7_init cX7_init 1 none 0 := ⟨mw (i := 61) (by decide +kernel) (by decide +kernel), ini_X7, by decide +kernel, by decide +kernel, by decide⟩
theorem mv_X7_init : Cond.instanceMethod yX7_init ∈ wU := mw (i := 60) (by decide +kernel) (by decide +kernel)
theorem mi_X7_person : MI yX7_person cX7_person 1 (some .int) 0 := ⟨mw (i := 266) (by decide +kernel) (by decide +kernel), ini_X7, by decide +kernel, by decide +kernel, by decide⟩
theorem mv_X7_person : Cond.instanceMethod yX7_person ∈ wU := mw (i := 264) (by decide +kernel) (by decide +kernel)
theorem se_X7_person : Cond.selects RX7 yX7_person yX7_person ∈ wU := mw (i := 265) (by decide +kernel) (by decide +kernel)
theorem mi_X7_today : MI yX7_today cX7_today 2 (some .boolean) 1 := ⟨mw (i := 270) (by decide +kernel) (by decide +kernel), ini_X7, by decide +kernel, by decide +kernel, by decide⟩
theorem mv_X7_today : Cond.instanceMethod yX7_today ∈ wU := mw (i := 268) (by decide +kernel) (by decide +kernel)
theorem se_X7_today : Cond.selects RX7 yX7_today yX7_today ∈ wU := mw (i := 269) (by decide +kernel) (by decide +kernel)
theorem mi_X7_as : MI yX7_as cX7_as 2 (some .int) 1 := ⟨mw (i := 277) (by decide +kernel) (by decide +kernel), ini_X7, by decide +kernel, by decide +kernel, by decide⟩
theorem mv_X7_as : Cond.instanceMethod yX7_as ∈ wU := mw (i := 275) (by decide +kernel) (by decide +kernel)
theorem se_X7_as : Cond.selects RX7 yX7_as yX7_as ∈ wU := mw (i := 276) (by decide +kernel) (by decide +kernel)
theorem mi_X7_letter : MI yX7_letter cX7_letter 4 (some .int) 2 := ⟨mw (i := 281) (by decide +kernel) (by decide +kernel), ini_X7, by decide +kernel, by decide +kernel, by decide⟩
theorem mv_X7_letter : Cond.instanceMethod yX7_letter ∈ wU := mw (i := 279) (by decide +kernel) (by decide +kernel)
theorem se_X7_letter : Cond.selects RX7 yX7_letter yX7_letter ∈ wU := mw (i := 280) (by decide +kernel) (by decide +kernel)
theorem mi_X7_term : MI yX7_term cX7_term 7 (some .int) 4 := ⟨mw (i := 422) (by decide +kernel) (by decide +kernel), ini_X7, by decide +kernel, by decide +kernel, by decide⟩
theorem mv_X7_term : Cond.instanceMethod yX7_term ∈ wU := mw (i := 420) (by decide +kernel) (by decide +kernel)
theorem se_X7_term : Cond.selects RX7 yX7_term yX7_term ∈ wU := mw (i := 421) (by decide +kernel) (by decide +kernel)
theorem mi_X7_waits : MI yX7_waits cX7_waits 10 (some .int) 6 := ⟨mw (i := 429) (by decide +kernel) (by decide +kernel), ini_X7, by decide +kernel, by decide +kernel, by decide⟩
theorem mv_X7_waits : Cond.instanceMethod yX7_waits ∈ wU := mw (i := 427) (by decide +kernel) (by decide +kernel)
theorem se_X7_waits : Cond.selects RX7 yX7_waits yX7_waits ∈ wU := mw (i := 428) (by decide +kernel) (by decide +kernel)
theorem mi_X7_stay : MI yX7_stay cX7_stay 10 (some .int) 6 := ⟨mw (i := 469) (by decide +kernel) (by decide +kernel), ini_X7, by decide +kernel, by decide +kernel, by decide⟩
theorem mv_X7_stay : Cond.instanceMethod yX7_stay ∈ wU := mw (i := 467) (by decide +kernel) (by decide +kernel)
theorem se_X7_stay : Cond.selects RX7 yX7_stay yX7_stay ∈ wU := mw (i := 468) (by decide +kernel) (by decide +kernel)
theorem mi_X7_quash : MI yX7_quash cX7_quash 7 (some .int) 3 := ⟨mw (i := 473) (by decide +kernel) (by decide +kernel), ini_X7, by decide +kernel, by decide +kernel, by decide⟩
theorem mv_X7_quash : Cond.instanceMethod yX7_quash ∈ wU := mw (i := 471) (by decide +kernel) (by decide +kernel)
theorem se_X7_quash : Cond.selects RX7 yX7_quash yX7_quash ∈ wU := mw (i := 472) (by decide +kernel) (by decide +kernel)
theorem mi_X7_month : MI yX7_month cX7_month 6 (some .int) 4 := ⟨mw (i := 481) (by decide +kernel) (by decide +kernel), ini_X7, by decide +kernel, by decide +kernel, by decide⟩
theorem mv_X7_month : Cond.instanceMethod yX7_month ∈ wU := mw (i := 479) (by decide +kernel) (by decide +kernel)
theorem se_X7_month : Cond.selects RX7 yX7_month yX7_month ∈ wU := mw (i := 480) (by decide +kernel) (by decide +kernel)
theorem mi_X7_held : MI yX7_held cX7_held 7 (some .int) 4 := ⟨mw (i := 486) (by decide +kernel) (by decide +kernel), ini_X7, by decide +kernel, by decide +kernel, by decide⟩
theorem mv_X7_held : Cond.instanceMethod yX7_held ∈ wU := mw (i := 484) (by decide +kernel) (by decide +kernel)
theorem se_X7_held : Cond.selects RX7 yX7_held yX7_held ∈ wU := mw (i := 485) (by decide +kernel) (by decide +kernel)
theorem mi_X7_tear : MI yX7_tear cX7_tear 3 (some .int) 2 := ⟨mw (i := 502) (by decide +kernel) (by decide +kernel), ini_X7, by decide +kernel, by decide +kernel, by decide⟩
theorem mv_X7_tear : Cond.instanceMethod yX7_tear ∈ wU := mw (i := 500) (by decide +kernel) (by decide +kernel)
theorem se_X7_tear : Cond.selects RX7 yX7_tear yX7_tear ∈ wU := mw (i := 501) (by decide +kernel) (by decide +kernel)
theorem mi_X7_copy : MI yX7_copy cX7_copy 7 (some .int) 4 := ⟨mw (i := 506) (by decide +kernel) (by decide +kernel), ini_X7, by decide +kernel, by decide +kernel, by decide⟩
theorem mv_X7_copy : Cond.instanceMethod yX7_copy ∈ wU := mw (i := 504) (by decide +kernel) (by decide +kernel)
theorem se_X7_copy : Cond.selects RX7 yX7_copy yX7_copy ∈ wU := mw (i := 505) (by decide +kernel) (by decide +kernel)
theorem mi_X7_off : MI yX7_off cX7_off 7 (some .int) 4 := ⟨mw (i := 510) (by decide +kernel) (by decide +kernel), ini_X7, by decide +kernel, by decide +kernel, by decide⟩
theorem mv_X7_off : Cond.instanceMethod yX7_off ∈ wU := mw (i := 508) (by decide +kernel) (by decide +kernel)
theorem se_X7_off : Cond.selects RX7 yX7_off yX7_off ∈ wU := mw (i := 509) (by decide +kernel) (by decide +kernel)
theorem mi_X7_back : MI yX7_back cX7_back 8 (some .int) 3 := ⟨mw (i := 524) (by decide +kernel) (by decide +kernel), ini_X7, by decide +kernel, by decide +kernel, by decide⟩
theorem mv_X7_back : Cond.instanceMethod yX7_back ∈ wU := mw (i := 522) (by decide +kernel) (by decide +kernel)
theorem se_X7_back : Cond.selects RX7 yX7_back yX7_back ∈ wU := mw (i := 523) (by decide +kernel) (by decide +kernel)
theorem mi_X7_grant : MI yX7_grant cX7_grant 4 (some .int) 2 := ⟨mw (i := 625) (by decide +kernel) (by decide +kernel), ini_X7, by decide +kernel, by decide +kernel, by decide⟩
theorem mv_X7_grant : Cond.instanceMethod yX7_grant ∈ wU := mw (i := 623) (by decide +kernel) (by decide +kernel)
theorem se_X7_grant : Cond.selects RX7 yX7_grant yX7_grant ∈ wU := mw (i := 624) (by decide +kernel) (by decide +kernel)
theorem mi_X7_recall : MI yX7_recall cX7_recall 9 (some .int) 4 := ⟨mw (i := 647) (by decide +kernel) (by decide +kernel), ini_X7, by decide +kernel, by decide +kernel, by decide⟩
theorem mv_X7_recall : Cond.instanceMethod yX7_recall ∈ wU := mw (i := 645) (by decide +kernel) (by decide +kernel)
theorem se_X7_recall : Cond.selects RX7 yX7_recall yX7_recall ∈ wU := mw (i := 646) (by decide +kernel) (by decide +kernel)
theorem mi_X7_kind : MI yX7_kind cX7_kind 4 (some .int) 2 := ⟨mw (i := 658) (by decide +kernel) (by decide +kernel), ini_X7, by decide +kernel, by decide +kernel, by decide⟩
theorem mv_X7_kind : Cond.instanceMethod yX7_kind ∈ wU := mw (i := 656) (by decide +kernel) (by decide +kernel)
theorem se_X7_kind : Cond.selects RX7 yX7_kind yX7_kind ∈ wU := mw (i := 657) (by decide +kernel) (by decide +kernel)
theorem mi_X7_begins : MI yX7_begins cX7_begins 4 (some .int) 3 := ⟨mw (i := 673) (by decide +kernel) (by decide +kernel), ini_X7, by decide +kernel, by decide +kernel, by decide⟩
theorem mv_X7_begins : Cond.instanceMethod yX7_begins ∈ wU := mw (i := 671) (by decide +kernel) (by decide +kernel)
theorem se_X7_begins : Cond.selects RX7 yX7_begins yX7_begins ∈ wU := mw (i := 672) (by decide +kernel) (by decide +kernel)
theorem mi_X7_ends : MI yX7_ends cX7_ends 4 (some .int) 3 := ⟨mw (i := 689) (by decide +kernel) (by decide +kernel), ini_X7, by decide +kernel, by decide +kernel, by decide⟩
theorem mv_X7_ends : Cond.instanceMethod yX7_ends ∈ wU := mw (i := 687) (by decide +kernel) (by decide +kernel)
theorem se_X7_ends : Cond.selects RX7 yX7_ends yX7_ends ∈ wU := mw (i := 688) (by decide +kernel) (by decide +kernel)
theorem mi_X7_counted : MI yX7_counted cX7_counted 5 (some .int) 4 := ⟨mw (i := 697) (by decide +kernel) (by decide +kernel), ini_X7, by decide +kernel, by decide +kernel, by decide⟩
theorem mv_X7_counted : Cond.instanceMethod yX7_counted ∈ wU := mw (i := 695) (by decide +kernel) (by decide +kernel)
theorem se_X7_counted : Cond.selects RX7 yX7_counted yX7_counted ∈ wU := mw (i := 696) (by decide +kernel) (by decide +kernel)
theorem mi_X7_taken : MI yX7_taken cX7_taken 4 (some .int) 3 := ⟨mw (i := 705) (by decide +kernel) (by decide +kernel), ini_X7, by decide +kernel, by decide +kernel, by decide⟩
theorem mv_X7_taken : Cond.instanceMethod yX7_taken ∈ wU := mw (i := 703) (by decide +kernel) (by decide +kernel)
theorem se_X7_taken : Cond.selects RX7 yX7_taken yX7_taken ∈ wU := mw (i := 704) (by decide +kernel) (by decide +kernel)
theorem mi_X7_why : MI yX7_why cX7_why 6 (some .int) 3 := ⟨mw (i := 709) (by decide +kernel) (by decide +kernel), ini_X7, by decide +kernel, by decide +kernel, by decide⟩
theorem mv_X7_why : Cond.instanceMethod yX7_why ∈ wU := mw (i := 707) (by decide +kernel) (by decide +kernel)
theorem se_X7_why : Cond.selects RX7 yX7_why yX7_why ∈ wU := mw (i := 708) (by decide +kernel) (by decide +kernel)
theorem mi_X7_by : MI yX7_by cX7_by 7 (some .int) 3 := ⟨mw (i := 725) (by decide +kernel) (by decide +kernel), ini_X7, by decide +kernel, by decide +kernel, by decide⟩
theorem mv_X7_by : Cond.instanceMethod yX7_by ∈ wU := mw (i := 723) (by decide +kernel) (by decide +kernel)
theorem se_X7_by : Cond.selects RX7 yX7_by yX7_by ∈ wU := mw (i := 724) (by decide +kernel) (by decide +kernel)
theorem mi_X7_full : MI yX7_full cX7_full 5 (some .int) 2 := ⟨mw (i := 730) (by decide +kernel) (by decide +kernel), ini_X7, by decide +kernel, by decide +kernel, by decide⟩
theorem mv_X7_full : Cond.instanceMethod yX7_full ∈ wU := mw (i := 728) (by decide +kernel) (by decide +kernel)
theorem se_X7_full : Cond.selects RX7 yX7_full yX7_full ∈ wU := mw (i := 729) (by decide +kernel) (by decide +kernel)
theorem mi_X7_watched : MI yX7_watched cX7_watched 5 (some .int) 3 := ⟨mw (i := 734) (by decide +kernel) (by decide +kernel), ini_X7, by decide +kernel, by decide +kernel, by decide⟩
theorem mv_X7_watched : Cond.instanceMethod yX7_watched ∈ wU := mw (i := 732) (by decide +kernel) (by decide +kernel)
theorem se_X7_watched : Cond.selects RX7 yX7_watched yX7_watched ∈ wU := mw (i := 733) (by decide +kernel) (by decide +kernel)
theorem mi_X7_open : MI yX7_open cX7_open 4 (some .int) 2 := ⟨mw (i := 738) (by decide +kernel) (by decide +kernel), ini_X7, by decide +kernel, by decide +kernel, by decide⟩
theorem mv_X7_open : Cond.instanceMethod yX7_open ∈ wU := mw (i := 736) (by decide +kernel) (by decide +kernel)
theorem se_X7_open : Cond.selects RX7 yX7_open yX7_open ∈ wU := mw (i := 737) (by decide +kernel) (by decide +kernel)
theorem mi_X7_over : MI yX7_over cX7_over 5 (some .int) 1 := ⟨mw (i := 743) (by decide +kernel) (by decide +kernel), ini_X7, by decide +kernel, by decide +kernel, by decide⟩
theorem mv_X7_over : Cond.instanceMethod yX7_over ∈ wU := mw (i := 741) (by decide +kernel) (by decide +kernel)
theorem se_X7_over : Cond.selects RX7 yX7_over yX7_over ∈ wU := mw (i := 742) (by decide +kernel) (by decide +kernel)
theorem mi_X7_ring : MI yX7_ring cX7_ring 2 (some .int) 1 := ⟨mw (i := 752) (by decide +kernel) (by decide +kernel), ini_X7, by decide +kernel, by decide +kernel, by decide⟩
theorem mv_X7_ring : Cond.instanceMethod yX7_ring ∈ wU := mw (i := 750) (by decide +kernel) (by decide +kernel)
theorem se_X7_ring : Cond.selects RX7 yX7_ring yX7_ring ∈ wU := mw (i := 751) (by decide +kernel) (by decide +kernel)
theorem mi_X7_check : MI yX7_check cX7_check 7 (some .int) 4 := ⟨mw (i := 760) (by decide +kernel) (by decide +kernel), ini_X7, by decide +kernel, by decide +kernel, by decide⟩
theorem mv_X7_check : Cond.instanceMethod yX7_check ∈ wU := mw (i := 758) (by decide +kernel) (by decide +kernel)
theorem se_X7_check : Cond.selects RX7 yX7_check yX7_check ∈ wU := mw (i := 759) (by decide +kernel) (by decide +kernel)
theorem mi_X7_image : MI yX7_image cX7_image 4 (some .int) 2 := ⟨mw (i := 769) (by decide +kernel) (by decide +kernel), ini_X7, by decide +kernel, by decide +kernel, by decide⟩
theorem mv_X7_image : Cond.instanceMethod yX7_image ∈ wU := mw (i := 767) (by decide +kernel) (by decide +kernel)
theorem se_X7_image : Cond.selects RX7 yX7_image yX7_image ∈ wU := mw (i := 768) (by decide +kernel) (by decide +kernel)
theorem mi_X7_take : MI yX7_take cX7_take 9 (some .int) 8 := ⟨mw (i := 777) (by decide +kernel) (by decide +kernel), ini_X7, by decide +kernel, by decide +kernel, by decide⟩
theorem mv_X7_take : Cond.instanceMethod yX7_take ∈ wU := mw (i := 775) (by decide +kernel) (by decide +kernel)
theorem se_X7_take : Cond.selects RX7 yX7_take yX7_take ∈ wU := mw (i := 776) (by decide +kernel) (by decide +kernel)
theorem mi_X7_count : MI yX7_count cX7_count 2 (some .int) 1 := ⟨mw (i := 795) (by decide +kernel) (by decide +kernel), ini_X7, by decide +kernel, by decide +kernel, by decide⟩
theorem mv_X7_count : Cond.instanceMethod yX7_count ∈ wU := mw (i := 793) (by decide +kernel) (by decide +kernel)
theorem se_X7_count : Cond.selects RX7 yX7_count yX7_count ∈ wU := mw (i := 794) (by decide +kernel) (by decide +kernel)
theorem mi_X7_isDay : MI yX7_isDay cX7_isDay 1 (some .boolean) 1 := ⟨mw (i := 273) (by decide +kernel) (by decide +kernel), ini_X7, by decide +kernel, by decide +kernel, by decide⟩
theorem ms_X7_isDay : Cond.static yX7_isDay ∈ wU := mw (i := 272) (by decide +kernel) (by decide +kernel)
theorem mi_X7_isMonth : MI yX7_isMonth cX7_isMonth 1 (some .boolean) 1 := ⟨mw (i := 391) (by decide +kernel) (by decide +kernel), ini_X7, by decide +kernel, by decide +kernel, by decide⟩
theorem ms_X7_isMonth : Cond.static yX7_isMonth ∈ wU := mw (i := 390) (by decide +kernel) (by decide +kernel)
theorem mi_X7_isPlace : MI yX7_isPlace cX7_isPlace 1 (some .boolean) 1 := ⟨mw (i := 308) (by decide +kernel) (by decide +kernel), ini_X7, by decide +kernel, by decide +kernel, by decide⟩
theorem ms_X7_isPlace : Cond.static yX7_isPlace ∈ wU := mw (i := 307) (by decide +kernel) (by decide +kernel)
theorem mi_X7_isNeed : MI yX7_isNeed cX7_isNeed 1 (some .boolean) 1 := ⟨mw (i := 425) (by decide +kernel) (by decide +kernel), ini_X7, by decide +kernel, by decide +kernel, by decide⟩
theorem ms_X7_isNeed : Cond.static yX7_isNeed ∈ wU := mw (i := 424) (by decide +kernel) (by decide +kernel)
theorem mi_X7_isSet : MI yX7_isSet cX7_isSet 1 (some .boolean) 1 := ⟨mw (i := 432) (by decide +kernel) (by decide +kernel), ini_X7, by decide +kernel, by decide +kernel, by decide⟩
theorem ms_X7_isSet : Cond.static yX7_isSet ∈ wU := mw (i := 431) (by decide +kernel) (by decide +kernel)
theorem mi_X7_names : MI yX7_names cX7_names 2 (some .boolean) 2 := ⟨mw (i := 453) (by decide +kernel) (by decide +kernel), ini_X7, by decide +kernel, by decide +kernel, by decide⟩
theorem ms_X7_names : Cond.static yX7_names ∈ wU := mw (i := 452) (by decide +kernel) (by decide +kernel)
theorem mi_X7_part : MI yX7_part cX7_part 2 (some .int) 2 := ⟨mw (i := 577) (by decide +kernel) (by decide +kernel), ini_X7, by decide +kernel, by decide +kernel, by decide⟩
theorem ms_X7_part : Cond.static yX7_part ∈ wU := mw (i := 576) (by decide +kernel) (by decide +kernel)
theorem mi_X7_dayOrNone : MI yX7_dayOrNone cX7_dayOrNone 1 (some .int) 1 := ⟨mw (i := 685) (by decide +kernel) (by decide +kernel), ini_X7, by decide +kernel, by decide +kernel, by decide⟩
theorem ms_X7_dayOrNone : Cond.static yX7_dayOrNone ∈ wU := mw (i := 684) (by decide +kernel) (by decide +kernel)
theorem mi_X7_bitsFrom : MI yX7_bitsFrom cX7_bitsFrom 1 (some .int) 1 := ⟨mw (i := 565) (by decide +kernel) (by decide +kernel), ini_X7, by decide +kernel, by decide +kernel, by decide⟩
theorem ms_X7_bitsFrom : Cond.static yX7_bitsFrom ∈ wU := mw (i := 564) (by decide +kernel) (by decide +kernel)
theorem mi_X7_bitsUpTo : MI yX7_bitsUpTo cX7_bitsUpTo 1 (some .int) 1 := ⟨mw (i := 394) (by decide +kernel) (by decide +kernel), ini_X7, by decide +kernel, by decide +kernel, by decide⟩
theorem ms_X7_bitsUpTo : Cond.static yX7_bitsUpTo ∈ wU := mw (i := 393) (by decide +kernel) (by decide +kernel)
theorem mi_X7_isPerson : MI yX7_isPerson cX7_isPerson 2 (some .boolean) 1 := ⟨mw (i := 297) (by decide +kernel) (by decide +kernel), ini_X7, by decide +kernel, by decide +kernel, by decide⟩
theorem mv_X7_isPerson : Cond.instanceMethod yX7_isPerson ∈ wU := mw (i := 296) (by decide +kernel) (by decide +kernel)
theorem se_X7_isPerson : Cond.selects RX7 yX7_isPerson yX7_isPerson ∈ wU := mw (i := 3) (by decide +kernel) (by decide +kernel)
theorem mi_X7_fileOf : MI yX7_fileOf cX7_fileOf 3 (some (.object "TermReckoner$File")) 2 := ⟨mw (i := 293) (by decide +kernel) (by decide +kernel), ini_X7, by decide +kernel, by decide +kernel, by decide⟩
theorem mv_X7_fileOf : Cond.instanceMethod yX7_fileOf ∈ wU := mw (i := 292) (by decide +kernel) (by decide +kernel)
theorem se_X7_fileOf : Cond.selects RX7 yX7_fileOf yX7_fileOf ∈ wU := mw (i := 2) (by decide +kernel) (by decide +kernel)
theorem mi_X7_placeOf : MI yX7_placeOf cX7_placeOf 5 (some (.object "TermReckoner$Place")) 3 := ⟨mw (i := 289) (by decide +kernel) (by decide +kernel), ini_X7, by decide +kernel, by decide +kernel, by decide⟩
theorem mv_X7_placeOf : Cond.instanceMethod yX7_placeOf ∈ wU := mw (i := 288) (by decide +kernel) (by decide +kernel)
theorem se_X7_placeOf : Cond.selects RX7 yX7_placeOf yX7_placeOf ∈ wU := mw (i := 1) (by decide +kernel) (by decide +kernel)
theorem mi_X7_putStatus : MI yX7_putStatus cX7_putStatus 4 (some .int) 2 := ⟨mw (i := 285) (by decide +kernel) (by decide +kernel), ini_X7, by decide +kernel, by decide +kernel, by decide⟩
theorem mv_X7_putStatus : Cond.instanceMethod yX7_putStatus ∈ wU := mw (i := 284) (by decide +kernel) (by decide +kernel)
theorem se_X7_putStatus : Cond.selects RX7 yX7_putStatus yX7_putStatus ∈ wU := mw (i := 0) (by decide +kernel) (by decide +kernel)
theorem mi_X7_tell : MI yX7_tell cX7_tell 2 (some .int) 1 := ⟨mw (i := 359) (by decide +kernel) (by decide +kernel), ini_X7, by decide +kernel, by decide +kernel, by decide⟩
theorem mv_X7_tell : Cond.instanceMethod yX7_tell ∈ wU := mw (i := 358) (by decide +kernel) (by decide +kernel)
theorem se_X7_tell : Cond.selects RX7 yX7_tell yX7_tell ∈ wU := mw (i := 4) (by decide +kernel) (by decide +kernel)
theorem mi_X7_dayAsked : MI yX7_dayAsked cX7_dayAsked 1 (some .int) 0 := ⟨mw (i := 666) (by decide +kernel) (by decide +kernel), ini_X7, by decide +kernel, by decide +kernel, by decide⟩
theorem mv_X7_dayAsked : Cond.instanceMethod yX7_dayAsked ∈ wU := mw (i := 665) (by decide +kernel) (by decide +kernel)
theorem se_X7_dayAsked : Cond.selects RX7 yX7_dayAsked yX7_dayAsked ∈ wU := mw (i := 18) (by decide +kernel) (by decide +kernel)
theorem mi_X7_known : MI yX7_known cX7_known 2 (some (.object "TermReckoner$Registry")) 0 := ⟨mw (i := 662) (by decide +kernel) (by decide +kernel), ini_X7, by decide +kernel, by decide +kernel, by decide⟩
theorem mv_X7_known : Cond.instanceMethod yX7_known ∈ wU := mw (i := 661) (by decide +kernel) (by decide +kernel)
theorem se_X7_known : Cond.selects RX7 yX7_known yX7_known ∈ wU := mw (i := 17) (by decide +kernel) (by decide +kernel)
theorem mi_X7_isBehind : MI yX7_isBehind cX7_isBehind 2 (some .boolean) 2 := ⟨mw (i := 669) (by decide +kernel) (by decide +kernel), ini_X7, by decide +kernel, by decide +kernel, by decide⟩
theorem ms_X7_isBehind : Cond.static yX7_isBehind ∈ wU := mw (i := 668) (by decide +kernel) (by decide +kernel)
theorem mi_X7_reckonOrder : MI yX7_reckonOrder cX7_reckonOrder 6 (some .boolean) 3 := ⟨mw (i := 677) (by decide +kernel) (by decide +kernel), ini_X7, by decide +kernel, by decide +kernel, by decide⟩
theorem mv_X7_reckonOrder : Cond.instanceMethod yX7_reckonOrder ∈ wU := mw (i := 676) (by decide +kernel) (by decide +kernel)
theorem se_X7_reckonOrder : Cond.selects RX7 yX7_reckonOrder yX7_reckonOrder ∈ wU := mw (i := 19) (by decide +kernel) (by decide +kernel)
theorem mi_X8_init : MI yX8_init cX8_init 1 none 0 := ⟨mw (i := 800) (by decide +kernel) (by decide +kernel), ini_X8, by decide +kernel, by decide +kernel, by decide⟩
theorem mv_X8_init : Cond.instanceMethod yX8_init ∈ wU := mw (i := 799) (by decide +kernel) (by decide +kernel)
theorem mi_X8_person : MI yX8_person cX8_person 1 (some .int) 0 := ⟨mw (i := 907) (by decide +kernel) (by decide +kernel), ini_X8, by decide +kernel, by decide +kernel, by decide⟩
theorem mv_X8_person : Cond.instanceMethod yX8_person ∈ wU := mw (i := 905) (by decide +kernel) (by decide +kernel)
theorem se_X8_person : Cond.selects RX8 yX8_person yX8_person ∈ wU := mw (i := 906) (by decide +kernel) (by decide +kernel)
theorem mi_X8_today : MI yX8_today cX8_today 2 (some .boolean) 1 := ⟨mw (i := 911) (by decide +kernel) (by decide +kernel), ini_X8, by decide +kernel, by decide +kernel, by decide⟩
theorem mv_X8_today : Cond.instanceMethod yX8_today ∈ wU := mw (i := 909) (by decide +kernel) (by decide +kernel)
theorem se_X8_today : Cond.selects RX8 yX8_today yX8_today ∈ wU := mw (i := 910) (by decide +kernel) (by decide +kernel)
theorem mi_X8_as : MI yX8_as cX8_as 2 (some .int) 1 := ⟨mw (i := 915) (by decide +kernel) (by decide +kernel), ini_X8, by decide +kernel, by decide +kernel, by decide⟩
theorem mv_X8_as : Cond.instanceMethod yX8_as ∈ wU := mw (i := 913) (by decide +kernel) (by decide +kernel)
theorem se_X8_as : Cond.selects RX8 yX8_as yX8_as ∈ wU := mw (i := 914) (by decide +kernel) (by decide +kernel)
theorem mi_X8_known : MI yX8_known cX8_known 1 (some .int) 0 := ⟨mw (i := 1078) (by decide +kernel) (by decide +kernel), ini_X8, by decide +kernel, by decide +kernel, by decide⟩
theorem mv_X8_known : Cond.instanceMethod yX8_known ∈ wU := mw (i := 1077) (by decide +kernel) (by decide +kernel)
theorem se_X8_known : Cond.selects RX8 yX8_known yX8_known ∈ wU := mw (i := 42) (by decide +kernel) (by decide +kernel)
theorem mi_X8_begin : MI yX8_begin cX8_begin 2 none 0 := ⟨mw (i := 938) (by decide +kernel) (by decide +kernel), ini_X8, by decide +kernel, by decide +kernel, by decide⟩
theorem mv_X8_begin : Cond.instanceMethod yX8_begin ∈ wU := mw (i := 937) (by decide +kernel) (by decide +kernel)
theorem se_X8_begin : Cond.selects RX8 yX8_begin yX8_begin ∈ wU := mw (i := 23) (by decide +kernel) (by decide +kernel)
theorem mi_X8_tellAgain : MI yX8_tellAgain cX8_tellAgain 4 none 2 := ⟨mw (i := 934) (by decide +kernel) (by decide +kernel), ini_X8, by decide +kernel, by decide +kernel, by decide⟩
theorem mv_X8_tellAgain : Cond.instanceMethod yX8_tellAgain ∈ wU := mw (i := 933) (by decide +kernel) (by decide +kernel)
theorem se_X8_tellAgain : Cond.selects RX8 yX8_tellAgain yX8_tellAgain ∈ wU := mw (i := 22) (by decide +kernel) (by decide +kernel)
theorem mi_X8_again : MI yX8_again cX8_again 9 none 2 := ⟨mw (i := 942) (by decide +kernel) (by decide +kernel), ini_X8, by decide +kernel, by decide +kernel, by decide⟩
theorem mv_X8_again : Cond.instanceMethod yX8_again ∈ wU := mw (i := 941) (by decide +kernel) (by decide +kernel)
theorem se_X8_again : Cond.selects RX8 yX8_again yX8_again ∈ wU := mw (i := 24) (by decide +kernel) (by decide +kernel)
theorem mi_X8_months : MI yX8_months cX8_months 7 none 4 := ⟨mw (i := 946) (by decide +kernel) (by decide +kernel), ini_X8, by decide +kernel, by decide +kernel, by decide⟩
theorem mv_X8_months : Cond.instanceMethod yX8_months ∈ wU := mw (i := 945) (by decide +kernel) (by decide +kernel)
theorem se_X8_months : Cond.selects RX8 yX8_months yX8_months ∈ wU := mw (i := 25) (by decide +kernel) (by decide +kernel)
theorem mi_X8_runs : MI yX8_runs cX8_runs 2 (some .boolean) 1 := ⟨mw (i := 976) (by decide +kernel) (by decide +kernel), ini_X8, by decide +kernel, by decide +kernel, by decide⟩
theorem mv_X8_runs : Cond.instanceMethod yX8_runs ∈ wU := mw (i := 975) (by decide +kernel) (by decide +kernel)
theorem se_X8_runs : Cond.selects RX8 yX8_runs yX8_runs ∈ wU := mw (i := 29) (by decide +kernel) (by decide +kernel)
theorem mi_X8_isLive : MI yX8_isLive cX8_isLive 2 (some .boolean) 1 := ⟨mw (i := 1019) (by decide +kernel) (by decide +kernel), ini_X8, by decide +kernel, by decide +kernel, by decide⟩
theorem mv_X8_isLive : Cond.instanceMethod yX8_isLive ∈ wU := mw (i := 1018) (by decide +kernel) (by decide +kernel)
theorem se_X8_isLive : Cond.selects RX8 yX8_isLive yX8_isLive ∈ wU := mw (i := 32) (by decide +kernel) (by decide +kernel)
theorem mi_X8_isHeld : MI yX8_isHeld cX8_isHeld 5 (some .boolean) 3 := ⟨mw (i := 1050) (by decide +kernel) (by decide +kernel), ini_X8, by decide +kernel, by decide +kernel, by decide⟩
theorem mv_X8_isHeld : Cond.instanceMethod yX8_isHeld ∈ wU := mw (i := 1049) (by decide +kernel) (by decide +kernel)
theorem se_X8_isHeld : Cond.selects RX8 yX8_isHeld yX8_isHeld ∈ wU := mw (i := 38) (by decide +kernel) (by decide +kernel)
theorem mi_X8_has : MI yX8_has cX8_has 5 (some .int) 3 := ⟨mw (i := 1046) (by decide +kernel) (by decide +kernel), ini_X8, by decide +kernel, by decide +kernel, by decide⟩
theorem mv_X8_has : Cond.instanceMethod yX8_has ∈ wU := mw (i := 1045) (by decide +kernel) (by decide +kernel)
theorem se_X8_has : Cond.selects RX8 yX8_has yX8_has ∈ wU := mw (i := 37) (by decide +kernel) (by decide +kernel)
theorem mi_X8_thousandths : MI yX8_thousandths cX8_thousandths 2 (some .int) 2 := ⟨mw (i := 1042) (by decide +kernel) (by decide +kernel), ini_X8, by decide +kernel, by decide +kernel, by decide⟩
theorem ms_X8_thousandths : Cond.static yX8_thousandths ∈ wU := mw (i := 1041) (by decide +kernel) (by decide +kernel)
theorem mi_X8_isReady : MI yX8_isReady cX8_isReady 3 (some .boolean) 1 := ⟨mw (i := 1031) (by decide +kernel) (by decide +kernel), ini_X8, by decide +kernel, by decide +kernel, by decide⟩
theorem mv_X8_isReady : Cond.instanceMethod yX8_isReady ∈ wU := mw (i := 1030) (by decide +kernel) (by decide +kernel)
theorem se_X8_isReady : Cond.selects RX8 yX8_isReady yX8_isReady ∈ wU := mw (i := 34) (by decide +kernel) (by decide +kernel)
theorem mi_X8_beginning : MI yX8_beginning cX8_beginning 6 (some .int) 1 := ⟨mw (i := 1039) (by decide +kernel) (by decide +kernel), ini_X8, by decide +kernel, by decide +kernel, by decide⟩
theorem mv_X8_beginning : Cond.instanceMethod yX8_beginning ∈ wU := mw (i := 1038) (by decide +kernel) (by decide +kernel)
theorem se_X8_beginning : Cond.selects RX8 yX8_beginning yX8_beginning ∈ wU := mw (i := 36) (by decide +kernel) (by decide +kernel)
theorem mi_X8_goThrough : MI yX8_goThrough cX8_goThrough 12 none 3 := ⟨mw (i := 1035) (by decide +kernel) (by decide +kernel), ini_X8, by decide +kernel, by decide +kernel, by decide⟩
theorem mv_X8_goThrough : Cond.instanceMethod yX8_goThrough ∈ wU := mw (i := 1034) (by decide +kernel) (by decide +kernel)
theorem se_X8_goThrough : Cond.selects RX8 yX8_goThrough yX8_goThrough ∈ wU := mw (i := 35) (by decide +kernel) (by decide +kernel)
theorem mi_X8_reckon : MI yX8_reckon cX8_reckon 6 none 3 := ⟨mw (i := 1027) (by decide +kernel) (by decide +kernel), ini_X8, by decide +kernel, by decide +kernel, by decide⟩
theorem mv_X8_reckon : Cond.instanceMethod yX8_reckon ∈ wU := mw (i := 1026) (by decide +kernel) (by decide +kernel)
theorem se_X8_reckon : Cond.selects RX8 yX8_reckon yX8_reckon ∈ wU := mw (i := 33) (by decide +kernel) (by decide +kernel)
theorem mi_X8_fullNow : MI yX8_fullNow cX8_fullNow 3 (some .int) 0 := ⟨mw (i := 1066) (by decide +kernel) (by decide +kernel), ini_X8, by decide +kernel, by decide +kernel, by decide⟩
theorem mv_X8_fullNow : Cond.instanceMethod yX8_fullNow ∈ wU := mw (i := 1065) (by decide +kernel) (by decide +kernel)
theorem se_X8_fullNow : Cond.selects RX8 yX8_fullNow yX8_fullNow ∈ wU := mw (i := 40) (by decide +kernel) (by decide +kernel)
theorem mi_X8_watchedNow : MI yX8_watchedNow cX8_watchedNow 7 (some .int) 1 := ⟨mw (i := 1058) (by decide +kernel) (by decide +kernel), ini_X8, by decide +kernel, by decide +kernel, by decide⟩
theorem mv_X8_watchedNow : Cond.instanceMethod yX8_watchedNow ∈ wU := mw (i := 1057) (by decide +kernel) (by decide +kernel)
theorem se_X8_watchedNow : Cond.selects RX8 yX8_watchedNow yX8_watchedNow ∈ wU := mw (i := 39) (by decide +kernel) (by decide +kernel)
theorem mi_X8_isPlace : MI yX8_isPlace cX8_isPlace 1 (some .boolean) 1 := ⟨mw (i := 930) (by decide +kernel) (by decide +kernel), ini_X8, by decide +kernel, by decide +kernel, by decide⟩
theorem ms_X8_isPlace : Cond.static yX8_isPlace ∈ wU := mw (i := 929) (by decide +kernel) (by decide +kernel)
theorem mi_X8_isPerson : MI yX8_isPerson cX8_isPerson 2 (some .boolean) 1 := ⟨mw (i := 927) (by decide +kernel) (by decide +kernel), ini_X8, by decide +kernel, by decide +kernel, by decide⟩
theorem mv_X8_isPerson : Cond.instanceMethod yX8_isPerson ∈ wU := mw (i := 926) (by decide +kernel) (by decide +kernel)
theorem se_X8_isPerson : Cond.selects RX8 yX8_isPerson yX8_isPerson ∈ wU := mw (i := 21) (by decide +kernel) (by decide +kernel)
theorem mi_X8_isDay : MI yX8_isDay cX8_isDay 1 (some .boolean) 1 := ⟨mw (i := 960) (by decide +kernel) (by decide +kernel), ini_X8, by decide +kernel, by decide +kernel, by decide⟩
theorem ms_X8_isDay : Cond.static yX8_isDay ∈ wU := mw (i := 959) (by decide +kernel) (by decide +kernel)
theorem mi_X8_isMonth : MI yX8_isMonth cX8_isMonth 1 (some .boolean) 1 := ⟨mw (i := 995) (by decide +kernel) (by decide +kernel), ini_X8, by decide +kernel, by decide +kernel, by decide⟩
theorem ms_X8_isMonth : Cond.static yX8_isMonth ∈ wU := mw (i := 994) (by decide +kernel) (by decide +kernel)
theorem mi_X8_comes : MI yX8_comes cX8_comes 9 (some .int) 7 := ⟨mw (i := 950) (by decide +kernel) (by decide +kernel), ini_X8, by decide +kernel, by decide +kernel, by decide⟩
theorem mv_X8_comes : Cond.instanceMethod yX8_comes ∈ wU := mw (i := 949) (by decide +kernel) (by decide +kernel)
theorem se_X8_comes : Cond.selects RX8 yX8_comes yX8_comes ∈ wU := mw (i := 26) (by decide +kernel) (by decide +kernel)
theorem mi_X8_room : MI yX8_room cX8_room 3 (some .int) 2 := ⟨mw (i := 923) (by decide +kernel) (by decide +kernel), ini_X8, by decide +kernel, by decide +kernel, by decide⟩
theorem mv_X8_room : Cond.instanceMethod yX8_room ∈ wU := mw (i := 922) (by decide +kernel) (by decide +kernel)
theorem se_X8_room : Cond.selects RX8 yX8_room yX8_room ∈ wU := mw (i := 20) (by decide +kernel) (by decide +kernel)
theorem mi_X8_letter : MI yX8_letter cX8_letter 4 (some .int) 2 := ⟨mw (i := 919) (by decide +kernel) (by decide +kernel), ini_X8, by decide +kernel, by decide +kernel, by decide⟩
theorem mv_X8_letter : Cond.instanceMethod yX8_letter ∈ wU := mw (i := 917) (by decide +kernel) (by decide +kernel)
theorem se_X8_letter : Cond.selects RX8 yX8_letter yX8_letter ∈ wU := mw (i := 918) (by decide +kernel) (by decide +kernel)
theorem mi_X8_isTerm : MI yX8_isTerm cX8_isTerm 2 (some .boolean) 2 := ⟨mw (i := 957) (by decide +kernel) (by decide +kernel), ini_X8, by decide +kernel, by decide +kernel, by decide⟩
theorem ms_X8_isTerm : Cond.static yX8_isTerm ∈ wU := mw (i := 956) (by decide +kernel) (by decide +kernel)
theorem mi_X8_term : MI yX8_term cX8_term 6 (some .int) 4 := ⟨mw (i := 954) (by decide +kernel) (by decide +kernel), ini_X8, by decide +kernel, by decide +kernel, by decide⟩
theorem mv_X8_term : Cond.instanceMethod yX8_term ∈ wU := mw (i := 952) (by decide +kernel) (by decide +kernel)
theorem se_X8_term : Cond.selects RX8 yX8_term yX8_term ∈ wU := mw (i := 953) (by decide +kernel) (by decide +kernel)
theorem mi_X8_names : MI yX8_names cX8_names 3 (some .boolean) 2 := ⟨mw (i := 972) (by decide +kernel) (by decide +kernel), ini_X8, by decide +kernel, by decide +kernel, by decide⟩
theorem mv_X8_names : Cond.instanceMethod yX8_names ∈ wU := mw (i := 971) (by decide +kernel) (by decide +kernel)
theorem se_X8_names : Cond.selects RX8 yX8_names yX8_names ∈ wU := mw (i := 28) (by decide +kernel) (by decide +kernel)
theorem mi_X8_isRing : MI yX8_isRing cX8_isRing 7 (some .boolean) 1 := ⟨mw (i := 968) (by decide +kernel) (by decide +kernel), ini_X8, by decide +kernel, by decide +kernel, by decide⟩
theorem mv_X8_isRing : Cond.instanceMethod yX8_isRing ∈ wU := mw (i := 967) (by decide +kernel) (by decide +kernel)
theorem se_X8_isRing : Cond.selects RX8 yX8_isRing yX8_isRing ∈ wU := mw (i := 27) (by decide +kernel) (by decide +kernel)
theorem mi_X8_isBetter : MI yX8_isBetter cX8_isBetter 5 none 1 := ⟨mw (i := 980) (by decide +kernel) (by decide +kernel), ini_X8, by decide +kernel, by decide +kernel, by decide⟩
theorem mv_X8_isBetter : Cond.instanceMethod yX8_isBetter ∈ wU := mw (i := 979) (by decide +kernel) (by decide +kernel)
theorem se_X8_isBetter : Cond.selects RX8 yX8_isBetter yX8_isBetter ∈ wU := mw (i := 30) (by decide +kernel) (by decide +kernel)
theorem mi_X8_waits : MI yX8_waits cX8_waits 9 (some .int) 6 := ⟨mw (i := 964) (by decide +kernel) (by decide +kernel), ini_X8, by decide +kernel, by decide +kernel, by decide⟩
theorem mv_X8_waits : Cond.instanceMethod yX8_waits ∈ wU := mw (i := 962) (by decide +kernel) (by decide +kernel)
theorem se_X8_waits : Cond.selects RX8 yX8_waits yX8_waits ∈ wU := mw (i := 963) (by decide +kernel) (by decide +kernel)
theorem mi_X8_stay : MI yX8_stay cX8_stay 8 (some .int) 6 := ⟨mw (i := 984) (by decide +kernel) (by decide +kernel), ini_X8, by decide +kernel, by decide +kernel, by decide⟩
theorem mv_X8_stay : Cond.instanceMethod yX8_stay ∈ wU := mw (i := 982) (by decide +kernel) (by decide +kernel)
theorem se_X8_stay : Cond.selects RX8 yX8_stay yX8_stay ∈ wU := mw (i := 983) (by decide +kernel) (by decide +kernel)
theorem mi_X8_quash : MI yX8_quash cX8_quash 5 (some .int) 3 := ⟨mw (i := 988) (by decide +kernel) (by decide +kernel), ini_X8, by decide +kernel, by decide +kernel, by decide⟩
theorem mv_X8_quash : Cond.instanceMethod yX8_quash ∈ wU := mw (i := 986) (by decide +kernel) (by decide +kernel)
theorem se_X8_quash : Cond.selects RX8 yX8_quash yX8_quash ∈ wU := mw (i := 987) (by decide +kernel) (by decide +kernel)
theorem mi_X8_month : MI yX8_month cX8_month 5 (some .int) 4 := ⟨mw (i := 992) (by decide +kernel) (by decide +kernel), ini_X8, by decide +kernel, by decide +kernel, by decide⟩
theorem mv_X8_month : Cond.instanceMethod yX8_month ∈ wU := mw (i := 990) (by decide +kernel) (by decide +kernel)
theorem se_X8_month : Cond.selects RX8 yX8_month yX8_month ∈ wU := mw (i := 991) (by decide +kernel) (by decide +kernel)
theorem mi_X8_held : MI yX8_held cX8_held 8 (some .int) 4 := ⟨mw (i := 999) (by decide +kernel) (by decide +kernel), ini_X8, by decide +kernel, by decide +kernel, by decide⟩
theorem mv_X8_held : Cond.instanceMethod yX8_held ∈ wU := mw (i := 997) (by decide +kernel) (by decide +kernel)
theorem se_X8_held : Cond.selects RX8 yX8_held yX8_held ∈ wU := mw (i := 998) (by decide +kernel) (by decide +kernel)
theorem mi_X8_tear : MI yX8_tear cX8_tear 3 (some .int) 2 := ⟨mw (i := 1003) (by decide +kernel) (by decide +kernel), ini_X8, by decide +kernel, by decide +kernel, by decide⟩
theorem mv_X8_tear : Cond.instanceMethod yX8_tear ∈ wU := mw (i := 1001) (by decide +kernel) (by decide +kernel)
theorem se_X8_tear : Cond.selects RX8 yX8_tear yX8_tear ∈ wU := mw (i := 1002) (by decide +kernel) (by decide +kernel)
theorem mi_X8_copy : MI yX8_copy cX8_copy 5 (some .int) 4 := ⟨mw (i := 1007) (by decide +kernel) (by decide +kernel), ini_X8, by decide +kernel, by decide +kernel, by decide⟩
theorem mv_X8_copy : Cond.instanceMethod yX8_copy ∈ wU := mw (i := 1005) (by decide +kernel) (by decide +kernel)
theorem se_X8_copy : Cond.selects RX8 yX8_copy yX8_copy ∈ wU := mw (i := 1006) (by decide +kernel) (by decide +kernel)
theorem mi_X8_isRuled : MI yX8_isRuled cX8_isRuled 2 (some .boolean) 1 := ⟨mw (i := 1015) (by decide +kernel) (by decide +kernel), ini_X8, by decide +kernel, by decide +kernel, by decide⟩
theorem mv_X8_isRuled : Cond.instanceMethod yX8_isRuled ∈ wU := mw (i := 1014) (by decide +kernel) (by decide +kernel)
theorem se_X8_isRuled : Cond.selects RX8 yX8_isRuled yX8_isRuled ∈ wU := mw (i := 31) (by decide +kernel) (by decide +kernel)
theorem mi_X8_off : MI yX8_off cX8_off 5 (some .int) 4 := ⟨mw (i := 1011) (by decide +kernel) (by decide +kernel), ini_X8, by decide +kernel, by decide +kernel, by decide⟩
theorem mv_X8_off : Cond.instanceMethod yX8_off ∈ wU := mw (i := 1009) (by decide +kernel) (by decide +kernel)
theorem se_X8_off : Cond.selects RX8 yX8_off yX8_off ∈ wU := mw (i := 1010) (by decide +kernel) (by decide +kernel)
theorem mi_X8_back : MI yX8_back cX8_back 6 (some .int) 3 := ⟨mw (i := 1023) (by decide +kernel) (by decide +kernel), ini_X8, by decide +kernel, by decide +kernel, by decide⟩
theorem mv_X8_back : Cond.instanceMethod yX8_back ∈ wU := mw (i := 1021) (by decide +kernel) (by decide +kernel)
theorem se_X8_back : Cond.selects RX8 yX8_back yX8_back ∈ wU := mw (i := 1022) (by decide +kernel) (by decide +kernel)
theorem mi_X8_grant : MI yX8_grant cX8_grant 4 (some .int) 2 := ⟨mw (i := 1054) (by decide +kernel) (by decide +kernel), ini_X8, by decide +kernel, by decide +kernel, by decide⟩
theorem mv_X8_grant : Cond.instanceMethod yX8_grant ∈ wU := mw (i := 1052) (by decide +kernel) (by decide +kernel)
theorem se_X8_grant : Cond.selects RX8 yX8_grant yX8_grant ∈ wU := mw (i := 1053) (by decide +kernel) (by decide +kernel)
theorem mi_X8_recall : MI yX8_recall cX8_recall 8 (some .int) 4 := ⟨mw (i := 1062) (by decide +kernel) (by decide +kernel), ini_X8, by decide +kernel, by decide +kernel, by decide⟩
theorem mv_X8_recall : Cond.instanceMethod yX8_recall ∈ wU := mw (i := 1060) (by decide +kernel) (by decide +kernel)
theorem se_X8_recall : Cond.selects RX8 yX8_recall yX8_recall ∈ wU := mw (i := 1061) (by decide +kernel) (by decide +kernel)
theorem mi_X8_isThere : MI yX8_isThere cX8_isThere 3 (some .boolean) 2 := ⟨mw (i := 1074) (by decide +kernel) (by decide +kernel), ini_X8, by decide +kernel, by decide +kernel, by decide⟩
theorem mv_X8_isThere : Cond.instanceMethod yX8_isThere ∈ wU := mw (i := 1073) (by decide +kernel) (by decide +kernel)
theorem se_X8_isThere : Cond.selects RX8 yX8_isThere yX8_isThere ∈ wU := mw (i := 41) (by decide +kernel) (by decide +kernel)
theorem mi_X8_kind : MI yX8_kind cX8_kind 3 (some .int) 2 := ⟨mw (i := 1070) (by decide +kernel) (by decide +kernel), ini_X8, by decide +kernel, by decide +kernel, by decide⟩
theorem mv_X8_kind : Cond.instanceMethod yX8_kind ∈ wU := mw (i := 1068) (by decide +kernel) (by decide +kernel)
theorem se_X8_kind : Cond.selects RX8 yX8_kind yX8_kind ∈ wU := mw (i := 1069) (by decide +kernel) (by decide +kernel)
theorem mi_X8_isOrder : MI yX8_isOrder cX8_isOrder 4 (some .boolean) 3 := ⟨mw (i := 1086) (by decide +kernel) (by decide +kernel), ini_X8, by decide +kernel, by decide +kernel, by decide⟩
theorem mv_X8_isOrder : Cond.instanceMethod yX8_isOrder ∈ wU := mw (i := 1085) (by decide +kernel) (by decide +kernel)
theorem se_X8_isOrder : Cond.selects RX8 yX8_isOrder yX8_isOrder ∈ wU := mw (i := 43) (by decide +kernel) (by decide +kernel)
theorem mi_X8_begins : MI yX8_begins cX8_begins 4 (some .int) 3 := ⟨mw (i := 1082) (by decide +kernel) (by decide +kernel), ini_X8, by decide +kernel, by decide +kernel, by decide⟩
theorem mv_X8_begins : Cond.instanceMethod yX8_begins ∈ wU := mw (i := 1080) (by decide +kernel) (by decide +kernel)
theorem se_X8_begins : Cond.selects RX8 yX8_begins yX8_begins ∈ wU := mw (i := 1081) (by decide +kernel) (by decide +kernel)
theorem mi_X8_ends : MI yX8_ends cX8_ends 4 (some .int) 3 := ⟨mw (i := 1090) (by decide +kernel) (by decide +kernel), ini_X8, by decide +kernel, by decide +kernel, by decide⟩
theorem mv_X8_ends : Cond.instanceMethod yX8_ends ∈ wU := mw (i := 1088) (by decide +kernel) (by decide +kernel)
theorem se_X8_ends : Cond.selects RX8 yX8_ends yX8_ends ∈ wU := mw (i := 1089) (by decide +kernel) (by decide +kernel)
theorem mi_X8_counted : MI yX8_counted cX8_counted 5 (some .int) 4 := ⟨mw (i := 1094) (by decide +kernel) (by decide +kernel), ini_X8, by decide +kernel, by decide +kernel, by decide⟩
theorem mv_X8_counted : Cond.instanceMethod yX8_counted ∈ wU := mw (i := 1092) (by decide +kernel) (by decide +kernel)
theorem se_X8_counted : Cond.selects RX8 yX8_counted yX8_counted ∈ wU := mw (i := 1093) (by decide +kernel) (by decide +kernel)
theorem mi_X8_taken : MI yX8_taken cX8_taken 4 (some .int) 3 := ⟨mw (i := 1098) (by decide +kernel) (by decide +kernel), ini_X8, by decide +kernel, by decide +kernel, by decide⟩
theorem mv_X8_taken : Cond.instanceMethod yX8_taken ∈ wU := mw (i := 1096) (by decide +kernel) (by decide +kernel)
theorem se_X8_taken : Cond.selects RX8 yX8_taken yX8_taken ∈ wU := mw (i := 1097) (by decide +kernel) (by decide +kernel)
theorem mi_X8_why : MI yX8_why cX8_why 4 (some .int) 3 := ⟨mw (i := 1102) (by decide +kernel) (by decide +kernel), ini_X8, by decide +kernel, by decide +kernel, by decide⟩
theorem mv_X8_why : Cond.instanceMethod yX8_why ∈ wU := mw (i := 1100) (by decide +kernel) (by decide +kernel)
theorem se_X8_why : Cond.selects RX8 yX8_why yX8_why ∈ wU := mw (i := 1101) (by decide +kernel) (by decide +kernel)
theorem mi_X8_by : MI yX8_by cX8_by 5 (some .int) 3 := ⟨mw (i := 1106) (by decide +kernel) (by decide +kernel), ini_X8, by decide +kernel, by decide +kernel, by decide⟩
theorem mv_X8_by : Cond.instanceMethod yX8_by ∈ wU := mw (i := 1104) (by decide +kernel) (by decide +kernel)
theorem se_X8_by : Cond.selects RX8 yX8_by yX8_by ∈ wU := mw (i := 1105) (by decide +kernel) (by decide +kernel)
theorem mi_X8_full : MI yX8_full cX8_full 3 (some .int) 2 := ⟨mw (i := 1111) (by decide +kernel) (by decide +kernel), ini_X8, by decide +kernel, by decide +kernel, by decide⟩
theorem mv_X8_full : Cond.instanceMethod yX8_full ∈ wU := mw (i := 1109) (by decide +kernel) (by decide +kernel)
theorem se_X8_full : Cond.selects RX8 yX8_full yX8_full ∈ wU := mw (i := 1110) (by decide +kernel) (by decide +kernel)
theorem mi_X8_watched : MI yX8_watched cX8_watched 4 (some .int) 3 := ⟨mw (i := 1115) (by decide +kernel) (by decide +kernel), ini_X8, by decide +kernel, by decide +kernel, by decide⟩
theorem mv_X8_watched : Cond.instanceMethod yX8_watched ∈ wU := mw (i := 1113) (by decide +kernel) (by decide +kernel)
theorem se_X8_watched : Cond.selects RX8 yX8_watched yX8_watched ∈ wU := mw (i := 1114) (by decide +kernel) (by decide +kernel)
theorem mi_X8_open : MI yX8_open cX8_open 4 (some .int) 2 := ⟨mw (i := 1119) (by decide +kernel) (by decide +kernel), ini_X8, by decide +kernel, by decide +kernel, by decide⟩
theorem mv_X8_open : Cond.instanceMethod yX8_open ∈ wU := mw (i := 1117) (by decide +kernel) (by decide +kernel)
theorem se_X8_open : Cond.selects RX8 yX8_open yX8_open ∈ wU := mw (i := 1118) (by decide +kernel) (by decide +kernel)
theorem mi_X8_over : MI yX8_over cX8_over 6 (some .int) 1 := ⟨mw (i := 1123) (by decide +kernel) (by decide +kernel), ini_X8, by decide +kernel, by decide +kernel, by decide⟩
theorem mv_X8_over : Cond.instanceMethod yX8_over ∈ wU := mw (i := 1121) (by decide +kernel) (by decide +kernel)
theorem se_X8_over : Cond.selects RX8 yX8_over yX8_over ∈ wU := mw (i := 1122) (by decide +kernel) (by decide +kernel)
theorem mi_X8_ring : MI yX8_ring cX8_ring 2 (some .int) 1 := ⟨mw (i := 1127) (by decide +kernel) (by decide +kernel), ini_X8, by decide +kernel, by decide +kernel, by decide⟩
theorem mv_X8_ring : Cond.instanceMethod yX8_ring ∈ wU := mw (i := 1125) (by decide +kernel) (by decide +kernel)
theorem se_X8_ring : Cond.selects RX8 yX8_ring yX8_ring ∈ wU := mw (i := 1126) (by decide +kernel) (by decide +kernel)
theorem mi_X8_check : MI yX8_check cX8_check 7 (some .int) 4 := ⟨mw (i := 1131) (by decide +kernel) (by decide +kernel), ini_X8, by decide +kernel, by decide +kernel, by decide⟩
theorem mv_X8_check : Cond.instanceMethod yX8_check ∈ wU := mw (i := 1129) (by decide +kernel) (by decide +kernel)
theorem se_X8_check : Cond.selects RX8 yX8_check yX8_check ∈ wU := mw (i := 1130) (by decide +kernel) (by decide +kernel)
theorem mi_X8_image : MI yX8_image cX8_image 3 (some .int) 2 := ⟨mw (i := 1135) (by decide +kernel) (by decide +kernel), ini_X8, by decide +kernel, by decide +kernel, by decide⟩
theorem mv_X8_image : Cond.instanceMethod yX8_image ∈ wU := mw (i := 1133) (by decide +kernel) (by decide +kernel)
theorem se_X8_image : Cond.selects RX8 yX8_image yX8_image ∈ wU := mw (i := 1134) (by decide +kernel) (by decide +kernel)
theorem mi_X8_take : MI yX8_take cX8_take 9 (some .int) 8 := ⟨mw (i := 1139) (by decide +kernel) (by decide +kernel), ini_X8, by decide +kernel, by decide +kernel, by decide⟩
theorem mv_X8_take : Cond.instanceMethod yX8_take ∈ wU := mw (i := 1137) (by decide +kernel) (by decide +kernel)
theorem se_X8_take : Cond.selects RX8 yX8_take yX8_take ∈ wU := mw (i := 1138) (by decide +kernel) (by decide +kernel)
theorem mi_X8_count : MI yX8_count cX8_count 2 (some .int) 1 := ⟨mw (i := 1157) (by decide +kernel) (by decide +kernel), ini_X8, by decide +kernel, by decide +kernel, by decide⟩
theorem mv_X8_count : Cond.instanceMethod yX8_count ∈ wU := mw (i := 1155) (by decide +kernel) (by decide +kernel)
theorem se_X8_count : Cond.selects RX8 yX8_count yX8_count ∈ wU := mw (i := 1156) (by decide +kernel) (by decide +kernel)
theorem mi_J6_numberOfTrailingZeros_0f7a4 : MI yJ6_numberOfTrailingZeros_0f7a4 cJ6_numberOfTrailingZeros_0f7a4 2 (some .int) 1 := ⟨mw (i := 464) (by decide +kernel) (by decide +kernel), ini_J6, by decide +kernel, by decide +kernel, by decide⟩
theorem ms_J6_numberOfTrailingZeros_0f7a4 : Cond.static yJ6_numberOfTrailingZeros_0f7a4 ∈ wU := mw (i := 463) (by decide +kernel) (by decide +kernel)
theorem mi_J6_bitCount_0f7a4 : MI yJ6_bitCount_0f7a4 cJ6_bitCount_0f7a4 1 (some .int) 1 := ⟨mw (i := 637) (by decide +kernel) (by decide +kernel), ini_J6, by decide +kernel, by decide +kernel, by decide⟩
theorem ms_J6_bitCount_0f7a4 : Cond.static yJ6_bitCount_0f7a4 ∈ wU := mw (i := 636) (by decide +kernel) (by decide +kernel)
theorem mi_J7_fill_53178 : MI yJ7_fill_53178 cJ7_fill_53178 4 none 2 := ⟨mw (i := 380) (by decide +kernel) (by decide +kernel), ini_J7, by decide +kernel, by decide +kernel, by decide⟩
theorem ms_J7_fill_53178 : Cond.static yJ7_fill_53178 ∈ wU := mw (i := 379) (by decide +kernel) (by decide +kernel)
theorem li_L_9 : Cond.methodLink RL 9 yX7_init ∈ wU := mw (i := 59) (by decide +kernel) (by decide +kernel)
theorem li_X7_30 : Cond.methodLink RX7 30 yX4_init ∈ wU := mw (i := 69) (by decide +kernel) (by decide +kernel)
theorem li_X4_21 : Cond.methodLink RX4 21 yX1_init ∈ wU := mw (i := 76) (by decide +kernel) (by decide +kernel)
theorem ln_X1_31 : Cond.methodLinkNest RX1 31 yX2_init "TermReckoner" ∈ nwl := mn (i := 83) (by decide +kernel) (by decide +kernel)
theorem ln_X7_40 : Cond.methodLinkNest RX7 40 yX3_init "TermReckoner" ∈ nwl := mn (i := 165) (by decide +kernel) (by decide +kernel)
theorem ln_X3_29 : Cond.methodLinkNest RX3 29 yX6_init "TermReckoner" ∈ nwl := mn (i := 171) (by decide +kernel) (by decide +kernel)
theorem ln_X7_47 : Cond.methodLinkNest RX7 47 yX5_init "TermReckoner" ∈ nwl := mn (i := 218) (by decide +kernel) (by decide +kernel)
theorem li_L_13 : Cond.methodLink RL 13 yX7_person ∈ wU := mw (i := 263) (by decide +kernel) (by decide +kernel)
theorem li_L_18 : Cond.methodLink RL 18 yX7_today ∈ wU := mw (i := 267) (by decide +kernel) (by decide +kernel)
theorem li_X7_52 : Cond.methodLink RX7 52 yX7_isDay ∈ wU := mw (i := 271) (by decide +kernel) (by decide +kernel)
theorem li_L_23 : Cond.methodLink RL 23 yX7_as ∈ wU := mw (i := 274) (by decide +kernel) (by decide +kernel)
theorem li_L_28 : Cond.methodLink RL 28 yX7_letter ∈ wU := mw (i := 278) (by decide +kernel) (by decide +kernel)
theorem li_X7_56 : Cond.methodLink RX7 56 yX7_putStatus ∈ wU := mw (i := 282) (by decide +kernel) (by decide +kernel)
theorem li_X7_93 : Cond.methodLink RX7 93 yX7_placeOf ∈ wU := mw (i := 286) (by decide +kernel) (by decide +kernel)
theorem li_X7_112 : Cond.methodLink RX7 112 yX7_fileOf ∈ wU := mw (i := 290) (by decide +kernel) (by decide +kernel)
theorem li_X7_106 : Cond.methodLink RX7 106 yX7_isPerson ∈ wU := mw (i := 294) (by decide +kernel) (by decide +kernel)
theorem li_X7_79 : Cond.methodLink RX7 79 yX4_fileOf ∈ wU := mw (i := 298) (by decide +kernel) (by decide +kernel)
theorem li_X7_131 : Cond.methodLink RX7 131 yX1_at ∈ wU := mw (i := 302) (by decide +kernel) (by decide +kernel)
theorem ln_X1_45 : Cond.methodLinkNest RX1 45 yX7_isPlace "TermReckoner" ∈ nwl := mn (i := 306) (by decide +kernel) (by decide +kernel)
theorem li_X7_60 : Cond.methodLink RX7 60 yX0_init ∈ wU := mw (i := 310) (by decide +kernel) (by decide +kernel)
theorem li_X7_63 : Cond.methodLink RX7 63 yX7_tell ∈ wU := mw (i := 356) (by decide +kernel) (by decide +kernel)
theorem li_X7_269 : Cond.methodLink RX7 269 yX4_learnUpTo ∈ wU := mw (i := 360) (by decide +kernel) (by decide +kernel)
theorem li_X4_22 : Cond.methodLink RX4 22 yX4_wipe ∈ wU := mw (i := 364) (by decide +kernel) (by decide +kernel)
theorem li_X4_29 : Cond.methodLink RX4 29 yX4_fileOf ∈ wU := mw (i := 368) (by decide +kernel) (by decide +kernel)
theorem li_X4_33 : Cond.methodLink RX4 33 yX1_wipe ∈ wU := mw (i := 369) (by decide +kernel) (by decide +kernel)
theorem li_X1_32 : Cond.methodLink RX1 32 yX1_at ∈ wU := mw (i := 373) (by decide +kernel) (by decide +kernel)
theorem li_X1_36 : Cond.methodLink RX1 36 yX2_wipe ∈ wU := mw (i := 374) (by decide +kernel) (by decide +kernel)
theorem li_X1_39 : Cond.methodLink RX1 39 yJ7_fill_53178 ∈ wU := mw (i := 378) (by decide +kernel) (by decide +kernel)
theorem li_X4_25 : Cond.methodLink RX4 25 yX4_learn ∈ wU := mw (i := 381) (by decide +kernel) (by decide +kernel)
theorem li_X4_51 : Cond.methodLink RX4 51 yX1_setRow ∈ wU := mw (i := 385) (by decide +kernel) (by decide +kernel)
theorem ln_X1_49 : Cond.methodLinkNest RX1 49 yX7_isMonth "TermReckoner" ∈ nwl := mn (i := 389) (by decide +kernel) (by decide +kernel)
theorem ln_X1_80 : Cond.methodLinkNest RX1 80 yX7_bitsUpTo "TermReckoner" ∈ nwl := mn (i := 392) (by decide +kernel) (by decide +kernel)
theorem li_X4_55 : Cond.methodLink RX4 55 yX1_setDay ∈ wU := mw (i := 396) (by decide +kernel) (by decide +kernel)
theorem li_X4_59 : Cond.methodLink RX4 59 yX1_setTorn ∈ wU := mw (i := 400) (by decide +kernel) (by decide +kernel)
theorem li_X4_63 : Cond.methodLink RX4 63 yX1_copyRow ∈ wU := mw (i := 404) (by decide +kernel) (by decide +kernel)
theorem li_X4_70 : Cond.methodLink RX4 70 yX4_learnOfPlace ∈ wU := mw (i := 408) (by decide +kernel) (by decide +kernel)
theorem li_X4_74 : Cond.methodLink RX4 74 yX1_at ∈ wU := mw (i := 412) (by decide +kernel) (by decide +kernel)
theorem li_X4_83 : Cond.methodLink RX4 83 yX4_putTerm ∈ wU := mw (i := 413) (by decide +kernel) (by decide +kernel)
theorem li_X4_106 : Cond.methodLink RX4 106 yX4_markQuashed ∈ wU := mw (i := 416) (by decide +kernel) (by decide +kernel)
theorem li_L_33 : Cond.methodLink RL 33 yX7_term ∈ wU := mw (i := 419) (by decide +kernel) (by decide +kernel)
theorem li_X7_67 : Cond.methodLink RX7 67 yX7_isNeed ∈ wU := mw (i := 423) (by decide +kernel) (by decide +kernel)
theorem li_L_38 : Cond.methodLink RL 38 yX7_waits ∈ wU := mw (i := 426) (by decide +kernel) (by decide +kernel)
theorem li_X7_76 : Cond.methodLink RX7 76 yX7_isSet ∈ wU := mw (i := 430) (by decide +kernel) (by decide +kernel)
theorem li_X7_83 : Cond.methodLink RX7 83 yX5_closes ∈ wU := mw (i := 433) (by decide +kernel) (by decide +kernel)
theorem ln_X5_25 : Cond.methodLinkNest RX5 25 yX7_isPlace "TermReckoner" ∈ nwl := mn (i := 437) (by decide +kernel) (by decide +kernel)
theorem li_X5_29 : Cond.methodLink RX5 29 yX5_findNext ∈ wU := mw (i := 438) (by decide +kernel) (by decide +kernel)
theorem li_X5_48 : Cond.methodLink RX5 48 yX1_at ∈ wU := mw (i := 442) (by decide +kernel) (by decide +kernel)
theorem li_X5_54 : Cond.methodLink RX5 54 yX2_runs ∈ wU := mw (i := 443) (by decide +kernel) (by decide +kernel)
theorem li_X5_33 : Cond.methodLink RX5 33 yX5_lengthOfLeast ∈ wU := mw (i := 447) (by decide +kernel) (by decide +kernel)
theorem ln_X5_41 : Cond.methodLinkNest RX5 41 yX7_names "TermReckoner" ∈ nwl := mn (i := 451) (by decide +kernel) (by decide +kernel)
theorem li_X5_37 : Cond.methodLink RX5 37 yX5_findLeads ∈ wU := mw (i := 454) (by decide +kernel) (by decide +kernel)
theorem li_X5_45 : Cond.methodLink RX5 45 yX5_keep ∈ wU := mw (i := 458) (by decide +kernel) (by decide +kernel)
theorem li_X5_63 : Cond.methodLink RX5 63 yJ6_numberOfTrailingZeros_0f7a4 ∈ wU := mw (i := 462) (by decide +kernel) (by decide +kernel)
theorem li_L_43 : Cond.methodLink RL 43 yX7_stay ∈ wU := mw (i := 466) (by decide +kernel) (by decide +kernel)
theorem li_L_47 : Cond.methodLink RL 47 yX7_quash ∈ wU := mw (i := 470) (by decide +kernel) (by decide +kernel)
theorem li_X7_102 : Cond.methodLink RX7 102 yX2_isQuashed ∈ wU := mw (i := 474) (by decide +kernel) (by decide +kernel)
theorem li_L_52 : Cond.methodLink RL 52 yX7_month ∈ wU := mw (i := 478) (by decide +kernel) (by decide +kernel)
theorem li_X7_109 : Cond.methodLink RX7 109 yX7_isMonth ∈ wU := mw (i := 482) (by decide +kernel) (by decide +kernel)
theorem li_L_57 : Cond.methodLink RL 57 yX7_held ∈ wU := mw (i := 483) (by decide +kernel) (by decide +kernel)
theorem li_X7_115 : Cond.methodLink RX7 115 yX1_isRow ∈ wU := mw (i := 487) (by decide +kernel) (by decide +kernel)
theorem li_X7_120 : Cond.methodLink RX7 120 yX1_fitsRow ∈ wU := mw (i := 491) (by decide +kernel) (by decide +kernel)
theorem li_X7_124 : Cond.methodLink RX7 124 yX1_rowLength ∈ wU := mw (i := 495) (by decide +kernel) (by decide +kernel)
theorem li_L_61 : Cond.methodLink RL 61 yX7_tear ∈ wU := mw (i := 499) (by decide +kernel) (by decide +kernel)
theorem li_L_65 : Cond.methodLink RL 65 yX7_copy ∈ wU := mw (i := 503) (by decide +kernel) (by decide +kernel)
theorem li_L_69 : Cond.methodLink RL 69 yX7_off ∈ wU := mw (i := 507) (by decide +kernel) (by decide +kernel)
theorem li_X7_128 : Cond.methodLink RX7 128 yX2_mayHaveRule ∈ wU := mw (i := 511) (by decide +kernel) (by decide +kernel)
theorem li_X2_46 : Cond.methodLink RX2 46 yX2_stands ∈ wU := mw (i := 515) (by decide +kernel) (by decide +kernel)
theorem li_X2_39 : Cond.methodLink RX2 39 yX2_runs ∈ wU := mw (i := 519) (by decide +kernel) (by decide +kernel)
theorem li_X2_43 : Cond.methodLink RX2 43 yX2_isQuashed ∈ wU := mw (i := 520) (by decide +kernel) (by decide +kernel)
theorem li_L_73 : Cond.methodLink RL 73 yX7_back ∈ wU := mw (i := 521) (by decide +kernel) (by decide +kernel)
theorem li_X7_135 : Cond.methodLink RX7 135 yX3_reckon ∈ wU := mw (i := 525) (by decide +kernel) (by decide +kernel)
theorem li_X3_43 : Cond.methodLink RX3 43 yX1_at ∈ wU := mw (i := 530) (by decide +kernel) (by decide +kernel)
theorem li_X3_49 : Cond.methodLink RX3 49 yX2_stands ∈ wU := mw (i := 531) (by decide +kernel) (by decide +kernel)
theorem ln_X3_55 : Cond.methodLinkNest RX3 55 yX7_names "TermReckoner" ∈ nwl := mn (i := 532) (by decide +kernel) (by decide +kernel)
theorem li_X3_62 : Cond.methodLink RX3 62 yX3_reckonPlace ∈ wU := mw (i := 533) (by decide +kernel) (by decide +kernel)
theorem li_X3_69 : Cond.methodLink RX3 69 yX3_beginBeside ∈ wU := mw (i := 537) (by decide +kernel) (by decide +kernel)
theorem li_X3_73 : Cond.methodLink RX3 73 yX3_beginBehind ∈ wU := mw (i := 547) (by decide +kernel) (by decide +kernel)
theorem li_X3_76 : Cond.methodLink RX3 76 yX3_findSpans ∈ wU := mw (i := 551) (by decide +kernel) (by decide +kernel)
theorem li_X3_113 : Cond.methodLink RX3 113 yJ7_fill_53178 ∈ wU := mw (i := 554) (by decide +kernel) (by decide +kernel)
theorem li_X3_119 : Cond.methodLink RX3 119 yX2_isFor ∈ wU := mw (i := 555) (by decide +kernel) (by decide +kernel)
theorem ln_X2_49 : Cond.methodLinkNest RX2 49 yX7_names "TermReckoner" ∈ nwl := mn (i := 559) (by decide +kernel) (by decide +kernel)
theorem li_X3_122 : Cond.methodLink RX3 122 yX3_addSpan ∈ wU := mw (i := 560) (by decide +kernel) (by decide +kernel)
theorem ln_X3_91 : Cond.methodLinkNest RX3 91 yX7_bitsFrom "TermReckoner" ∈ nwl := mn (i := 563) (by decide +kernel) (by decide +kernel)
theorem ln_X3_99 : Cond.methodLinkNest RX3 99 yX7_bitsUpTo "TermReckoner" ∈ nwl := mn (i := 566) (by decide +kernel) (by decide +kernel)
theorem li_X3_80 : Cond.methodLink RX3 80 yX6_start ∈ wU := mw (i := 567) (by decide +kernel) (by decide +kernel)
theorem li_X6_33 : Cond.methodLink RX6 33 yX2_mostTaken ∈ wU := mw (i := 571) (by decide +kernel) (by decide +kernel)
theorem ln_X2_53 : Cond.methodLinkNest RX2 53 yX7_part "TermReckoner" ∈ nwl := mn (i := 575) (by decide +kernel) (by decide +kernel)
theorem li_X3_87 : Cond.methodLink RX3 87 yX1_heldDays ∈ wU := mw (i := 578) (by decide +kernel) (by decide +kernel)
theorem li_X1_55 : Cond.methodLink RX1 55 yX1_isOpen ∈ wU := mw (i := 582) (by decide +kernel) (by decide +kernel)
theorem li_X1_52 : Cond.methodLink RX1 52 yX1_isRow ∈ wU := mw (i := 586) (by decide +kernel) (by decide +kernel)
theorem li_X3_95 : Cond.methodLink RX3 95 yX6_addMonth ∈ wU := mw (i := 588) (by decide +kernel) (by decide +kernel)
theorem li_X6_50 : Cond.methodLink RX6 50 yX6_breakRow ∈ wU := mw (i := 592) (by decide +kernel) (by decide +kernel)
theorem li_X6_54 : Cond.methodLink RX6 54 yX6_reachedWith ∈ wU := mw (i := 597) (by decide +kernel) (by decide +kernel)
theorem li_X6_43 : Cond.methodLink RX6 43 yX6_takenWith ∈ wU := mw (i := 601) (by decide +kernel) (by decide +kernel)
theorem li_X6_57 : Cond.methodLink RX6 57 yX6_addDays ∈ wU := mw (i := 607) (by decide +kernel) (by decide +kernel)
theorem li_X7_139 : Cond.methodLink RX7 139 yX3_takenUpTo ∈ wU := mw (i := 611) (by decide +kernel) (by decide +kernel)
theorem li_X3_135 : Cond.methodLink RX3 135 yX3_countingIn ∈ wU := mw (i := 615) (by decide +kernel) (by decide +kernel)
theorem ln_X3_38 : Cond.methodLinkNest RX3 38 yX7_isPlace "TermReckoner" ∈ nwl := mn (i := 619) (by decide +kernel) (by decide +kernel)
theorem ln_X3_129 : Cond.methodLinkNest RX3 129 yX7_isMonth "TermReckoner" ∈ nwl := mn (i := 620) (by decide +kernel) (by decide +kernel)
theorem li_X3_143 : Cond.methodLink RX3 143 yX6_takenWith ∈ wU := mw (i := 621) (by decide +kernel) (by decide +kernel)
theorem li_L_77 : Cond.methodLink RL 77 yX7_grant ∈ wU := mw (i := 622) (by decide +kernel) (by decide +kernel)
theorem li_X7_146 : Cond.methodLink RX7 146 yX3_watchedDay ∈ wU := mw (i := 626) (by decide +kernel) (by decide +kernel)
theorem ln_X3_146 : Cond.methodLinkNest RX3 146 yX7_part "TermReckoner" ∈ nwl := mn (i := 630) (by decide +kernel) (by decide +kernel)
theorem li_X3_149 : Cond.methodLink RX3 149 yX3_dayOfCount ∈ wU := mw (i := 631) (by decide +kernel) (by decide +kernel)
theorem li_X3_138 : Cond.methodLink RX3 138 yJ6_bitCount_0f7a4 ∈ wU := mw (i := 635) (by decide +kernel) (by decide +kernel)
theorem li_X3_152 : Cond.methodLink RX3 152 yX3_dayOfBit ∈ wU := mw (i := 641) (by decide +kernel) (by decide +kernel)
theorem li_L_81 : Cond.methodLink RL 81 yX7_recall ∈ wU := mw (i := 644) (by decide +kernel) (by decide +kernel)
theorem li_X7_150 : Cond.methodLink RX7 150 yX3_fullDay ∈ wU := mw (i := 648) (by decide +kernel) (by decide +kernel)
theorem li_X7_158 : Cond.methodLink RX7 158 yX7_part ∈ wU := mw (i := 653) (by decide +kernel) (by decide +kernel)
theorem li_L_85 : Cond.methodLink RL 85 yX7_kind ∈ wU := mw (i := 655) (by decide +kernel) (by decide +kernel)
theorem li_X7_169 : Cond.methodLink RX7 169 yX7_known ∈ wU := mw (i := 659) (by decide +kernel) (by decide +kernel)
theorem li_X7_209 : Cond.methodLink RX7 209 yX7_dayAsked ∈ wU := mw (i := 663) (by decide +kernel) (by decide +kernel)
theorem li_X7_273 : Cond.methodLink RX7 273 yX7_isBehind ∈ wU := mw (i := 667) (by decide +kernel) (by decide +kernel)
theorem li_L_89 : Cond.methodLink RL 89 yX7_begins ∈ wU := mw (i := 670) (by decide +kernel) (by decide +kernel)
theorem li_X7_173 : Cond.methodLink RX7 173 yX7_reckonOrder ∈ wU := mw (i := 674) (by decide +kernel) (by decide +kernel)
theorem li_X7_278 : Cond.methodLink RX7 278 yX2_stands ∈ wU := mw (i := 678) (by decide +kernel) (by decide +kernel)
theorem li_X7_177 : Cond.methodLink RX7 177 yX3_beginOf ∈ wU := mw (i := 679) (by decide +kernel) (by decide +kernel)
theorem li_X7_180 : Cond.methodLink RX7 180 yX7_dayOrNone ∈ wU := mw (i := 683) (by decide +kernel) (by decide +kernel)
theorem li_L_94 : Cond.methodLink RL 94 yX7_ends ∈ wU := mw (i := 686) (by decide +kernel) (by decide +kernel)
theorem li_X7_183 : Cond.methodLink RX7 183 yX3_endOf ∈ wU := mw (i := 690) (by decide +kernel) (by decide +kernel)
theorem li_L_98 : Cond.methodLink RL 98 yX7_counted ∈ wU := mw (i := 694) (by decide +kernel) (by decide +kernel)
theorem li_X7_186 : Cond.methodLink RX7 186 yX3_countedUpTo ∈ wU := mw (i := 698) (by decide +kernel) (by decide +kernel)
theorem li_L_103 : Cond.methodLink RL 103 yX7_taken ∈ wU := mw (i := 702) (by decide +kernel) (by decide +kernel)
theorem li_L_107 : Cond.methodLink RL 107 yX7_why ∈ wU := mw (i := 706) (by decide +kernel) (by decide +kernel)
theorem li_X7_189 : Cond.methodLink RX7 189 yX2_runs ∈ wU := mw (i := 710) (by decide +kernel) (by decide +kernel)
theorem li_X7_192 : Cond.methodLink RX7 192 yX1_leastOf ∈ wU := mw (i := 711) (by decide +kernel) (by decide +kernel)
theorem li_X1_70 : Cond.methodLink RX1 70 yX2_isFor ∈ wU := mw (i := 715) (by decide +kernel) (by decide +kernel)
theorem li_X7_196 : Cond.methodLink RX7 196 yX1_isHeld ∈ wU := mw (i := 716) (by decide +kernel) (by decide +kernel)
theorem ln_X1_59 : Cond.methodLinkNest RX1 59 yX7_isDay "TermReckoner" ∈ nwl := mn (i := 720) (by decide +kernel) (by decide +kernel)
theorem li_X1_62 : Cond.methodLink RX1 62 yX1_heldDays ∈ wU := mw (i := 721) (by decide +kernel) (by decide +kernel)
theorem li_L_111 : Cond.methodLink RL 111 yX7_by ∈ wU := mw (i := 722) (by decide +kernel) (by decide +kernel)
theorem li_X7_200 : Cond.methodLink RX7 200 yX7_why ∈ wU := mw (i := 726) (by decide +kernel) (by decide +kernel)
theorem li_L_115 : Cond.methodLink RL 115 yX7_full ∈ wU := mw (i := 727) (by decide +kernel) (by decide +kernel)
theorem li_L_120 : Cond.methodLink RL 120 yX7_watched ∈ wU := mw (i := 731) (by decide +kernel) (by decide +kernel)
theorem li_L_124 : Cond.methodLink RL 124 yX7_open ∈ wU := mw (i := 735) (by decide +kernel) (by decide +kernel)
theorem li_X7_206 : Cond.methodLink RX7 206 yX1_isOpen ∈ wU := mw (i := 739) (by decide +kernel) (by decide +kernel)
theorem li_L_128 : Cond.methodLink RL 128 yX7_over ∈ wU := mw (i := 740) (by decide +kernel) (by decide +kernel)
theorem li_X7_212 : Cond.methodLink RX7 212 yX1_isToldHeld ∈ wU := mw (i := 744) (by decide +kernel) (by decide +kernel)
theorem li_X1_66 : Cond.methodLink RX1 66 yX1_isHeld ∈ wU := mw (i := 748) (by decide +kernel) (by decide +kernel)
theorem li_L_132 : Cond.methodLink RL 132 yX7_ring ∈ wU := mw (i := 749) (by decide +kernel) (by decide +kernel)
theorem li_X7_215 : Cond.methodLink RX7 215 yX5_placeAt ∈ wU := mw (i := 753) (by decide +kernel) (by decide +kernel)
theorem li_L_136 : Cond.methodLink RL 136 yX7_check ∈ wU := mw (i := 757) (by decide +kernel) (by decide +kernel)
theorem li_X7_218 : Cond.methodLink RX7 218 yX3_doesCount ∈ wU := mw (i := 761) (by decide +kernel) (by decide +kernel)
theorem ln_X3_132 : Cond.methodLinkNest RX3 132 yX7_isDay "TermReckoner" ∈ nwl := mn (i := 765) (by decide +kernel) (by decide +kernel)
theorem li_L_140 : Cond.methodLink RL 140 yX7_image ∈ wU := mw (i := 766) (by decide +kernel) (by decide +kernel)
theorem li_X7_221 : Cond.methodLink RX7 221 yX0_number ∈ wU := mw (i := 770) (by decide +kernel) (by decide +kernel)
theorem li_L_144 : Cond.methodLink RL 144 yX7_take ∈ wU := mw (i := 774) (by decide +kernel) (by decide +kernel)
theorem li_X7_224 : Cond.methodLink RX7 224 yX7_today ∈ wU := mw (i := 778) (by decide +kernel) (by decide +kernel)
theorem li_X7_226 : Cond.methodLink RX7 226 yX7_letter ∈ wU := mw (i := 779) (by decide +kernel) (by decide +kernel)
theorem li_X7_229 : Cond.methodLink RX7 229 yX7_term ∈ wU := mw (i := 780) (by decide +kernel) (by decide +kernel)
theorem li_X7_233 : Cond.methodLink RX7 233 yX7_waits ∈ wU := mw (i := 781) (by decide +kernel) (by decide +kernel)
theorem li_X7_237 : Cond.methodLink RX7 237 yX7_stay ∈ wU := mw (i := 782) (by decide +kernel) (by decide +kernel)
theorem li_X7_240 : Cond.methodLink RX7 240 yX7_quash ∈ wU := mw (i := 783) (by decide +kernel) (by decide +kernel)
theorem li_X7_243 : Cond.methodLink RX7 243 yX7_month ∈ wU := mw (i := 784) (by decide +kernel) (by decide +kernel)
theorem li_X7_247 : Cond.methodLink RX7 247 yX7_held ∈ wU := mw (i := 785) (by decide +kernel) (by decide +kernel)
theorem li_X7_250 : Cond.methodLink RX7 250 yX7_tear ∈ wU := mw (i := 786) (by decide +kernel) (by decide +kernel)
theorem li_X7_253 : Cond.methodLink RX7 253 yX7_copy ∈ wU := mw (i := 787) (by decide +kernel) (by decide +kernel)
theorem li_X7_256 : Cond.methodLink RX7 256 yX7_off ∈ wU := mw (i := 788) (by decide +kernel) (by decide +kernel)
theorem li_X7_259 : Cond.methodLink RX7 259 yX7_back ∈ wU := mw (i := 789) (by decide +kernel) (by decide +kernel)
theorem li_X7_262 : Cond.methodLink RX7 262 yX7_grant ∈ wU := mw (i := 790) (by decide +kernel) (by decide +kernel)
theorem li_X7_265 : Cond.methodLink RX7 265 yX7_recall ∈ wU := mw (i := 791) (by decide +kernel) (by decide +kernel)
theorem li_L_149 : Cond.methodLink RL 149 yX7_count ∈ wU := mw (i := 792) (by decide +kernel) (by decide +kernel)
theorem li_L_12 : Cond.methodLink RL 12 yX8_init ∈ wU := mw (i := 798) (by decide +kernel) (by decide +kernel)
theorem li_L_17 : Cond.methodLink RL 17 yX8_person ∈ wU := mw (i := 904) (by decide +kernel) (by decide +kernel)
theorem li_L_22 : Cond.methodLink RL 22 yX8_today ∈ wU := mw (i := 908) (by decide +kernel) (by decide +kernel)
theorem li_L_27 : Cond.methodLink RL 27 yX8_as ∈ wU := mw (i := 912) (by decide +kernel) (by decide +kernel)
theorem li_L_32 : Cond.methodLink RL 32 yX8_letter ∈ wU := mw (i := 916) (by decide +kernel) (by decide +kernel)
theorem li_X8_156 : Cond.methodLink RX8 156 yX8_room ∈ wU := mw (i := 920) (by decide +kernel) (by decide +kernel)
theorem li_X8_150 : Cond.methodLink RX8 150 yX8_isPerson ∈ wU := mw (i := 924) (by decide +kernel) (by decide +kernel)
theorem li_X8_153 : Cond.methodLink RX8 153 yX8_isPlace ∈ wU := mw (i := 928) (by decide +kernel) (by decide +kernel)
theorem li_X8_140 : Cond.methodLink RX8 140 yX8_tellAgain ∈ wU := mw (i := 931) (by decide +kernel) (by decide +kernel)
theorem li_X8_103 : Cond.methodLink RX8 103 yX8_begin ∈ wU := mw (i := 935) (by decide +kernel) (by decide +kernel)
theorem li_X8_109 : Cond.methodLink RX8 109 yX8_again ∈ wU := mw (i := 939) (by decide +kernel) (by decide +kernel)
theorem li_X8_113 : Cond.methodLink RX8 113 yX8_months ∈ wU := mw (i := 943) (by decide +kernel) (by decide +kernel)
theorem li_X8_159 : Cond.methodLink RX8 159 yX8_comes ∈ wU := mw (i := 947) (by decide +kernel) (by decide +kernel)
theorem li_L_37 : Cond.methodLink RL 37 yX8_term ∈ wU := mw (i := 951) (by decide +kernel) (by decide +kernel)
theorem li_X8_166 : Cond.methodLink RX8 166 yX8_isTerm ∈ wU := mw (i := 955) (by decide +kernel) (by decide +kernel)
theorem li_X8_163 : Cond.methodLink RX8 163 yX8_isDay ∈ wU := mw (i := 958) (by decide +kernel) (by decide +kernel)
theorem li_L_42 : Cond.methodLink RL 42 yX8_waits ∈ wU := mw (i := 961) (by decide +kernel) (by decide +kernel)
theorem li_X8_180 : Cond.methodLink RX8 180 yX8_isRing ∈ wU := mw (i := 965) (by decide +kernel) (by decide +kernel)
theorem li_X8_173 : Cond.methodLink RX8 173 yX8_names ∈ wU := mw (i := 969) (by decide +kernel) (by decide +kernel)
theorem li_X8_117 : Cond.methodLink RX8 117 yX8_runs ∈ wU := mw (i := 973) (by decide +kernel) (by decide +kernel)
theorem li_X8_176 : Cond.methodLink RX8 176 yX8_isBetter ∈ wU := mw (i := 977) (by decide +kernel) (by decide +kernel)
theorem li_L_46 : Cond.methodLink RL 46 yX8_stay ∈ wU := mw (i := 981) (by decide +kernel) (by decide +kernel)
theorem li_L_51 : Cond.methodLink RL 51 yX8_quash ∈ wU := mw (i := 985) (by decide +kernel) (by decide +kernel)
theorem li_L_56 : Cond.methodLink RL 56 yX8_month ∈ wU := mw (i := 989) (by decide +kernel) (by decide +kernel)
theorem li_X8_186 : Cond.methodLink RX8 186 yX8_isMonth ∈ wU := mw (i := 993) (by decide +kernel) (by decide +kernel)
theorem li_L_60 : Cond.methodLink RL 60 yX8_held ∈ wU := mw (i := 996) (by decide +kernel) (by decide +kernel)
theorem li_L_64 : Cond.methodLink RL 64 yX8_tear ∈ wU := mw (i := 1000) (by decide +kernel) (by decide +kernel)
theorem li_L_68 : Cond.methodLink RL 68 yX8_copy ∈ wU := mw (i := 1004) (by decide +kernel) (by decide +kernel)
theorem li_L_72 : Cond.methodLink RL 72 yX8_off ∈ wU := mw (i := 1008) (by decide +kernel) (by decide +kernel)
theorem li_X8_189 : Cond.methodLink RX8 189 yX8_isRuled ∈ wU := mw (i := 1012) (by decide +kernel) (by decide +kernel)
theorem li_X8_121 : Cond.methodLink RX8 121 yX8_isLive ∈ wU := mw (i := 1016) (by decide +kernel) (by decide +kernel)
theorem li_L_76 : Cond.methodLink RL 76 yX8_back ∈ wU := mw (i := 1020) (by decide +kernel) (by decide +kernel)
theorem li_X8_192 : Cond.methodLink RX8 192 yX8_reckon ∈ wU := mw (i := 1024) (by decide +kernel) (by decide +kernel)
theorem li_X8_143 : Cond.methodLink RX8 143 yX8_isReady ∈ wU := mw (i := 1028) (by decide +kernel) (by decide +kernel)
theorem li_X8_146 : Cond.methodLink RX8 146 yX8_goThrough ∈ wU := mw (i := 1032) (by decide +kernel) (by decide +kernel)
theorem li_X8_124 : Cond.methodLink RX8 124 yX8_beginning ∈ wU := mw (i := 1036) (by decide +kernel) (by decide +kernel)
theorem li_X8_128 : Cond.methodLink RX8 128 yX8_thousandths ∈ wU := mw (i := 1040) (by decide +kernel) (by decide +kernel)
theorem li_X8_132 : Cond.methodLink RX8 132 yX8_has ∈ wU := mw (i := 1043) (by decide +kernel) (by decide +kernel)
theorem li_X8_136 : Cond.methodLink RX8 136 yX8_isHeld ∈ wU := mw (i := 1047) (by decide +kernel) (by decide +kernel)
theorem li_L_80 : Cond.methodLink RL 80 yX8_grant ∈ wU := mw (i := 1051) (by decide +kernel) (by decide +kernel)
theorem li_X8_195 : Cond.methodLink RX8 195 yX8_watchedNow ∈ wU := mw (i := 1055) (by decide +kernel) (by decide +kernel)
theorem li_L_84 : Cond.methodLink RL 84 yX8_recall ∈ wU := mw (i := 1059) (by decide +kernel) (by decide +kernel)
theorem li_X8_198 : Cond.methodLink RX8 198 yX8_fullNow ∈ wU := mw (i := 1063) (by decide +kernel) (by decide +kernel)
theorem li_L_88 : Cond.methodLink RL 88 yX8_kind ∈ wU := mw (i := 1067) (by decide +kernel) (by decide +kernel)
theorem li_X8_205 : Cond.methodLink RX8 205 yX8_isThere ∈ wU := mw (i := 1071) (by decide +kernel) (by decide +kernel)
theorem li_X8_202 : Cond.methodLink RX8 202 yX8_known ∈ wU := mw (i := 1075) (by decide +kernel) (by decide +kernel)
theorem li_L_93 : Cond.methodLink RL 93 yX8_begins ∈ wU := mw (i := 1079) (by decide +kernel) (by decide +kernel)
theorem li_X8_208 : Cond.methodLink RX8 208 yX8_isOrder ∈ wU := mw (i := 1083) (by decide +kernel) (by decide +kernel)
theorem li_L_97 : Cond.methodLink RL 97 yX8_ends ∈ wU := mw (i := 1087) (by decide +kernel) (by decide +kernel)
theorem li_L_102 : Cond.methodLink RL 102 yX8_counted ∈ wU := mw (i := 1091) (by decide +kernel) (by decide +kernel)
theorem li_L_106 : Cond.methodLink RL 106 yX8_taken ∈ wU := mw (i := 1095) (by decide +kernel) (by decide +kernel)
theorem li_L_110 : Cond.methodLink RL 110 yX8_why ∈ wU := mw (i := 1099) (by decide +kernel) (by decide +kernel)
theorem li_L_114 : Cond.methodLink RL 114 yX8_by ∈ wU := mw (i := 1103) (by decide +kernel) (by decide +kernel)
theorem li_X8_211 : Cond.methodLink RX8 211 yX8_why ∈ wU := mw (i := 1107) (by decide +kernel) (by decide +kernel)
theorem li_L_119 : Cond.methodLink RL 119 yX8_full ∈ wU := mw (i := 1108) (by decide +kernel) (by decide +kernel)
theorem li_L_123 : Cond.methodLink RL 123 yX8_watched ∈ wU := mw (i := 1112) (by decide +kernel) (by decide +kernel)
theorem li_L_127 : Cond.methodLink RL 127 yX8_open ∈ wU := mw (i := 1116) (by decide +kernel) (by decide +kernel)
theorem li_L_131 : Cond.methodLink RL 131 yX8_over ∈ wU := mw (i := 1120) (by decide +kernel) (by decide +kernel)
theorem li_L_135 : Cond.methodLink RL 135 yX8_ring ∈ wU := mw (i := 1124) (by decide +kernel) (by decide +kernel)
theorem li_L_139 : Cond.methodLink RL 139 yX8_check ∈ wU := mw (i := 1128) (by decide +kernel) (by decide +kernel)
theorem li_L_143 : Cond.methodLink RL 143 yX8_image ∈ wU := mw (i := 1132) (by decide +kernel) (by decide +kernel)
theorem li_L_148 : Cond.methodLink RL 148 yX8_take ∈ wU := mw (i := 1136) (by decide +kernel) (by decide +kernel)
theorem li_X8_214 : Cond.methodLink RX8 214 yX8_today ∈ wU := mw (i := 1140) (by decide +kernel) (by decide +kernel)
theorem li_X8_216 : Cond.methodLink RX8 216 yX8_letter ∈ wU := mw (i := 1141) (by decide +kernel) (by decide +kernel)
theorem li_X8_219 : Cond.methodLink RX8 219 yX8_term ∈ wU := mw (i := 1142) (by decide +kernel) (by decide +kernel)
theorem li_X8_223 : Cond.methodLink RX8 223 yX8_waits ∈ wU := mw (i := 1143) (by decide +kernel) (by decide +kernel)
theorem li_X8_227 : Cond.methodLink RX8 227 yX8_stay ∈ wU := mw (i := 1144) (by decide +kernel) (by decide +kernel)
theorem li_X8_230 : Cond.methodLink RX8 230 yX8_quash ∈ wU := mw (i := 1145) (by decide +kernel) (by decide +kernel)
theorem li_X8_233 : Cond.methodLink RX8 233 yX8_month ∈ wU := mw (i := 1146) (by decide +kernel) (by decide +kernel)
theorem li_X8_236 : Cond.methodLink RX8 236 yX8_held ∈ wU := mw (i := 1147) (by decide +kernel) (by decide +kernel)
theorem li_X8_239 : Cond.methodLink RX8 239 yX8_tear ∈ wU := mw (i := 1148) (by decide +kernel) (by decide +kernel)
theorem li_X8_242 : Cond.methodLink RX8 242 yX8_copy ∈ wU := mw (i := 1149) (by decide +kernel) (by decide +kernel)
theorem li_X8_245 : Cond.methodLink RX8 245 yX8_off ∈ wU := mw (i := 1150) (by decide +kernel) (by decide +kernel)
theorem li_X8_248 : Cond.methodLink RX8 248 yX8_back ∈ wU := mw (i := 1151) (by decide +kernel) (by decide +kernel)
theorem li_X8_251 : Cond.methodLink RX8 251 yX8_grant ∈ wU := mw (i := 1152) (by decide +kernel) (by decide +kernel)
theorem li_X8_253 : Cond.methodLink RX8 253 yX8_recall ∈ wU := mw (i := 1153) (by decide +kernel) (by decide +kernel)
theorem li_L_152 : Cond.methodLink RL 152 yX8_count ∈ wU := mw (i := 1154) (by decide +kernel) (by decide +kernel)
