/-! fields, rows and calls over the world of roles -/
def wset (w : St) (r j : Nat) (v : Int32) : St := (fun r' => if r' = r then upd (w.1 r) j v else w.1 r', w.2)
theorem wset_1 (w : St) (r j : Nat) (v : Int32) (r' j' : Nat) : (wset w r j v).1 r' j' = if r' = r ∧ j' = j then v else w.1 r' j' := by
  unfold wset
  by_cases h : r' = r
  · subst h
    by_cases h2 : j' = j
    · subst h2; simp [upd]
    · simp [upd, h2]
  · simp [h]
theorem wset_2 (w : St) (r j : Nat) (v : Int32) : (wset w r j v).2 = w.2 := rfl
theorem wset_row (w : St) (r j : Nat) (v : Int32) : (wset w r j v).1 r = upd (w.1 r) j v := by simp [wset]
theorem wset_ne (w : St) (r j : Nat) (v : Int32) {r' : Nat} (h : r' ≠ r) : (wset w r j v).1 r' = w.1 r' := by simp [wset, h]
theorem kd_lt {r c : Nat} (h : kd r = c) (hc : c ≠ 0) : r < 248 := by
  by_cases h1 : r < 248
  · exact h1
  · exfalso
    apply hc
    rw [← h]
    unfold kd
    repeat (first | rw [if_neg (by omega)] | rfl)
theorem ln_lt (r : Nat) : ln r < 2 ^ 31 := by
  unfold ln
  repeat' split
  all_goals decide
theorem wl_get {ac : Nat → ClassId} {lay : Nat → Nat} {w : St} {r : Nat} (hr : r < 248 + w.2.2.1) : (wl ac lay w)[r]? = some (adr lay w r, cell ac lay w r) := by
  simp [wl, hr]
theorem adr_lt {lay : Nat → Nat} {w : St} {r : Nat} (h : r < 248) : adr lay w r = lay r := by simp [adr, h]
theorem adr_ge {lay : Nat → Nat} {w : St} {i : Nat} : adr lay w (248 + i) = w.2.2.2 i := by
  unfold adr
  rw [if_neg (by omega), Nat.add_sub_cancel_left]
theorem wl_set {ac : Nat → ClassId} {lay : Nat → Nat} {w : St} {r j : Nat} {v : Int32} {e : va_E} (he : e = cellF ac lay w.2 (upd (w.1 r) j v) r) : (wl ac lay w).set r (adr lay w r, e) = wl ac lay (wset w r j v) := by
  apply List.ext_getElem?
  intro i
  by_cases hi : i < 248 + w.2.2.1
  · rw [wl_get (w := wset w r j v) (show i < 248 + (wset w r j v).2.2.1 from hi)]
    by_cases hir : i = r
    · subst hir
      rw [List.getElem?_set_self (by simp [wl]; exact hi)]
      show some (adr lay w i, e) = some (adr lay w i, cellF ac lay w.2 ((wset w i j v).1 i) i)
      rw [wset_row, he]
    · rw [List.getElem?_set_ne (Ne.symm hir), wl_get hi]
      show some (adr lay w i, cellF ac lay w.2 (w.1 i) i) = some (adr lay w i, cellF ac lay w.2 ((wset w r j v).1 i) i)
      rw [wset_ne w r j v hir]
  · rw [List.getElem?_eq_none (by simp [wl]; omega), List.getElem?_eq_none (by simp [wl, wset]; omega)]
theorem cell_0 {ac : Nat → ClassId} {lay : Nat → Nat} {w : St} {r : Nat} (h : kd r = 0) : cell ac lay w r = .inr (0, [.int (w.1 r 0), .int (w.1 r 1), .int (w.1 r 2), .int (w.1 r 3), .int (w.1 r 4), .int (w.1 r 5), .int (w.1 r 6), .int (w.1 r 7), .int (w.1 r 8)]) := by simp [cell, cellF, h]
theorem cell_1 {ac : Nat → ClassId} {lay : Nat → Nat} {w : St} {r : Nat} (h : kd r = 1) : cell ac lay w r = .inr (1, [.ref (lay (r + 1)), .ref (lay (r + 2)), .ref (lay (r + 3)), .ref (lay (r + 4)), .int (w.1 r 4)]) := by simp [cell, cellF, h]
theorem cell_2 {ac : Nat → ClassId} {lay : Nat → Nat} {w : St} {r : Nat} (h : kd r = 2) : cell ac lay w r = .inr (2, [.int (w.1 r 0), .int (w.1 r 1), .int (w.1 r 2), .int (w.1 r 3), .int (w.1 r 4), .int (w.1 r 5), .int (w.1 r 6), .int (w.1 r 7), .int (w.1 r 8)]) := by simp [cell, cellF, h]
theorem cell_3 {ac : Nat → ClassId} {lay : Nat → Nat} {w : St} {r : Nat} (h : kd r = 3) : cell ac lay w r = .inr (3, [.ref (lay (r + 1)), .ref (lay (r + 2)), .ref (lay (r + 3)), .ref (lay (r + 4)), .ref (lay (r + 5)), .ref (lay (r + 6)), .int (w.1 r 6)]) := by simp [cell, cellF, h]
theorem cell_4 {ac : Nat → ClassId} {lay : Nat → Nat} {w : St} {r : Nat} (h : kd r = 4) : cell ac lay w r = .inr (4, [.ref (lay (r + 1)), .int (w.1 r 1)]) := by simp [cell, cellF, h]
theorem cell_5 {ac : Nat → ClassId} {lay : Nat → Nat} {w : St} {r : Nat} (h : kd r = 5) : cell ac lay w r = .inr (5, [.ref (lay (r + 1)), .int (w.1 r 1), .ref (lay (r + 2)), .ref (lay (r + 3))]) := by simp [cell, cellF, h]
theorem cell_6 {ac : Nat → ClassId} {lay : Nat → Nat} {w : St} {r : Nat} (h : kd r = 6) : cell ac lay w r = .inr (6, [.int (w.1 r 0), .int (w.1 r 1), .int (w.1 r 2), .int (w.1 r 3), .int (w.1 r 4), .int (w.1 r 5)]) := by simp [cell, cellF, h]
theorem cell_7 {ac : Nat → ClassId} {lay : Nat → Nat} {w : St} {r : Nat} (h : kd r = 7) : cell ac lay w r = .inr (7, [.ref (lay 1), .int (w.1 r 1), .int (w.1 r 2), .int (w.1 r 3), .int (w.1 r 4), .ref (lay 2), .ref (lay 106), .ref (lay 210), .ref (lay 217)]) := by simp [cell, cellF, h]
theorem cell_8 {ac : Nat → ClassId} {lay : Nat → Nat} {w : St} {r : Nat} (h : kd r = 8) : cell ac lay w r = .inr (8, modelFs (w.1 r) lay) := by simp [cell, cellF, h]
theorem cell_10 {ac : Nat → ClassId} {lay : Nat → Nat} {w : St} {r : Nat} (h : kd r = 10) : cell ac lay w r = .inl (ac 0, ln r, .inl (w.1 r)) := by simp [cell, cellF, h]
theorem cell_11 {ac : Nat → ClassId} {lay : Nat → Nat} {w : St} {r : Nat} (h : kd r = 11) : cell ac lay w r = .inl (ac 1, ln r, .inl (w.1 r)) := by simp [cell, cellF, h]
theorem cell_12 {ac : Nat → ClassId} {lay : Nat → Nat} {w : St} {r : Nat} (h : kd r = 12) : cell ac lay w r = .inl (ac 2, 400, .inr (.inr (.inr (.inr (fun j => if j < w.2.1 then some (w.2.2.2 j) else none))))) := by simp [cell, cellF, h]
theorem cell_13 {ac : Nat → ClassId} {lay : Nat → Nat} {w : St} {r : Nat} (h : kd r = 13) : cell ac lay w r = .inl (ac 3, 6, .inr (.inr (.inr (.inr (fun j => some (lay (r + 1 + 17 * j))))))) := by simp [cell, cellF, h]
theorem cell_14 {ac : Nat → ClassId} {lay : Nat → Nat} {w : St} {r : Nat} (h : kd r = 14) : cell ac lay w r = .inl (ac 4, 12, .inr (.inr (.inr (.inr (fun j => some (lay (r + 4 + j))))))) := by simp [cell, cellF, h]
section ROWS2
variable {X : Cx} {cc : ByteArray} {own : String} {nL d k n pc : Nat} {ls ls' : List (Option Value)} {st : List Value} {w : St}
theorem a_get {r a ci j idx N : Nat} {v : Value} {ref C : String} {fs : List Value} {T : u_T} (hX : Kx X cc own nL d) (hr : r < 248 + w.2.2.1) (ha : adr (xlay X) w r = a) (hc : cell (xac X) (xlay X) w r = .inr (ci, fs)) (hcl : vwCl[ci]? = some (C, T, N)) (hin : ∀ q ∈ u_ws C T N, q ∈ wU) (hj : j < N) (hl : Cond.fieldLink own idx ref (T j).2.1 (T j).2.2.1 ∈ wU) (hs : ref = (T j).1) (hv : fs[j]? = some v) (hd : decode cc pc = .ok (.getfield idx, 3)) (kk : A X k n (pc + 3) ls (v :: st) w) : A X k n pc ls (.ref a :: st) w := by
  subst ha; subst hs
  intro H locs arr hW hS hL hk
  exact va_get hX.1 hX.2.1 hX.2.2.2.2.1 hin hX.2.2.2.1 hX.2.2.2.2.2.1 hW.1 r ((wl_get hr).trans (by rw [hc])) hcl j hj (hX.2.2.2.2.1 _ hl) (fun _ h9 => h9) hv hd (kk H locs arr hW hS hL hk)
theorem a_put {r a ci j idx N : Nat} {v : Int32} {ref C : String} {fs : List Value} {T : u_T} (ty0 : Nat → FieldType) (hX : Kx X cc own nL d) (hr : r < 248 + w.2.2.1) (ha : adr (xlay X) w r = a) (hc : cell (xac X) (xlay X) w r = .inr (ci, fs)) (hcl : vwCl[ci]? = some (C, T, N)) (hin : ∀ q ∈ u_ws C T N, q ∈ wU) (hty : ∀ k, k < N → parseFieldDescriptor (T k).2.2.1 = some (ty0 k)) (hnm : ∀ a, a < N → ∀ b, b < N → a ≠ b → (T a).2.1 ≠ (T b).2.1) (hj : j < N) (hl : Cond.fieldLink own idx ref (T j).2.1 (T j).2.2.1 ∈ wU) (hs : ref = (T j).1) (hfin : (T j).2.2.2 = false) (hI : parseFieldDescriptor (T j).2.2.1 = some .int) (hlen : j < fs.length) (he : (.inr (ci, fs.set j (.int v)) : va_E) = cellF (xac X) (xlay X) w.2 (upd (w.1 r) j v) r) (hd : decode cc pc = .ok (.putfield idx, 3)) (kk : A X k n (pc + 3) ls st (wset w r j v)) : A X k n pc ls (.int v :: .ref a :: st) w := by
  subst ha; subst hs
  intro H locs arr hW hS hL hk
  refine va_put (ty := .int) (v := .int v) hX.1 hX.2.1 hX.2.2.2.2.1 hin ty0 hty hnm hX.2.2.2.1 hX.2.2.2.2.2.1 hW.1 hW.2 hS r ((wl_get hr).trans (by rw [hc])) hcl j hj (hX.2.2.2.2.1 _ hl) (fun _ h9 => h9) hfin hI rfl rfl hlen hd (fun H1 locs1 hP hD hS1 => ?_)
  rw [wl_set (v := v) (j := j) he] at hP hD
  exact kk H1 locs1 arr ⟨hP, hD⟩ hS1 hL hk
theorem nI_cl {j : Nat} {r : Nat} (h : j < ln r) : (nI j).toNatClampNeg = j := nI_clamp (Nat.lt_trans h (ln_lt r))
theorem a_iald {r : Nat} {i : Int32} (j : Nat) (hX : Kx X cc own nL d) (hk0 : kd r = 10) (hi : i = nI j) (hj : j < ln r) (hd : decode cc pc = .ok (.iaload, 1)) (kk : A X k n (pc + 1) ls (.int (w.1 r j) :: st) w) : A X k n pc ls (.int i :: .ref (xlay X r) :: st) w := by
  subst hi
  intro H locs arr hW hS hL hk
  have hr : r < 248 + w.2.2.1 := Nat.lt_of_lt_of_le (kd_lt hk0 (by decide)) (Nat.le_add_right _ _)
  have e := wl_get (ac := xac X) (lay := xlay X) hr
  rw [adr_lt (kd_lt hk0 (by decide)), cell_10 hk0] at e
  refine va_iald hX.1 hX.2.1 hX.2.2.2.2.2.1 hW.1 r 0 e rfl (vp_in_nI hj (ln_lt r)) hd ?_
  rw [nI_cl hj]
  exact kk H locs arr hW hS hL hk
theorem a_zald {r : Nat} {i : Int32} (j : Nat) (hX : Kx X cc own nL d) (hk0 : kd r = 11) (hi : i = nI j) (hj : j < ln r) (hd : decode cc pc = .ok (.baload, 1)) (kk : A X k n (pc + 1) ls (.int (w.1 r j) :: st) w) : A X k n pc ls (.int i :: .ref (xlay X r) :: st) w := by
  subst hi
  intro H locs arr hW hS hL hk
  have hr : r < 248 + w.2.2.1 := Nat.lt_of_lt_of_le (kd_lt hk0 (by decide)) (Nat.le_add_right _ _)
  have e := wl_get (ac := xac X) (lay := xlay X) hr
  rw [adr_lt (kd_lt hk0 (by decide)), cell_11 hk0] at e
  refine va_zald hX.1 hX.2.1 hX.2.2.2.2.2.1 hW.1 r 1 e rfl (vp_in_nI hj (ln_lt r)) hd ?_
  rw [nI_cl hj]
  exact kk H locs arr hW hS hL hk
theorem a_iast {r : Nat} {i v : Int32} (j : Nat) (hX : Kx X cc own nL d) (hk0 : kd r = 10) (hi : i = nI j) (hj : j < ln r) (hd : decode cc pc = .ok (.iastore, 1)) (kk : A X k n (pc + 1) ls st (wset w r j v)) : A X k n pc ls (.int v :: .int i :: .ref (xlay X r) :: st) w := by
  subst hi
  intro H locs arr hW hS hL hk
  have hr : r < 248 + w.2.2.1 := Nat.lt_of_lt_of_le (kd_lt hk0 (by decide)) (Nat.le_add_right _ _)
  have e := wl_get (ac := xac X) (lay := xlay X) hr
  have ea : adr (xlay X) w r = xlay X r := adr_lt (kd_lt hk0 (by decide))
  rw [ea, cell_10 hk0] at e
  refine va_iast hX.1 hX.2.1 hX.2.2.2.2.2.1 hW.1 hW.2 hS r 0 e rfl (vp_in_nI hj (ln_lt r)) hd (fun H1 locs1 hP hD hS1 => ?_)
  rw [nI_cl hj, ← ea, wl_set (v := v) (j := j) (by simp [cellF, hk0])] at hP hD
  exact kk H1 locs1 arr ⟨hP, hD⟩ hS1 hL hk
theorem a_zast {r : Nat} {i v : Int32} (j : Nat) (hX : Kx X cc own nL d) (hk0 : kd r = 11) (hi : i = nI j) (hj : j < ln r) (hv : vp_nar .boolean v = v) (hd : decode cc pc = .ok (.bastore, 1)) (kk : A X k n (pc + 1) ls st (wset w r j v)) : A X k n pc ls (.int v :: .int i :: .ref (xlay X r) :: st) w := by
  subst hi
  intro H locs arr hW hS hL hk
  have hr : r < 248 + w.2.2.1 := Nat.lt_of_lt_of_le (kd_lt hk0 (by decide)) (Nat.le_add_right _ _)
  have e := wl_get (ac := xac X) (lay := xlay X) hr
  have ea : adr (xlay X) w r = xlay X r := adr_lt (kd_lt hk0 (by decide))
  rw [ea, cell_11 hk0] at e
  refine va_zast hX.1 hX.2.1 hX.2.2.2.2.2.1 hW.1 hW.2 hS r 1 e rfl (vp_in_nI hj (ln_lt r)) hd (fun H1 locs1 hP hD hS1 => ?_)
  rw [hv, nI_cl hj, ← ea, wl_set (v := v) (j := j) (by simp [cellF, hk0])] at hP hD
  exact kk H1 locs1 arr ⟨hP, hD⟩ hS1 hL hk
theorem a_ilen {r : Nat} (hX : Kx X cc own nL d) (hk0 : kd r = 10) (hd : decode cc pc = .ok (.arraylength, 1)) (kk : A X k n (pc + 1) ls (.int (nI (ln r)) :: st) w) : A X k n pc ls (.ref (xlay X r) :: st) w := by
  intro H locs arr hW hS hL hk
  have hr : r < 248 + w.2.2.1 := Nat.lt_of_lt_of_le (kd_lt hk0 (by decide)) (Nat.le_add_right _ _)
  have e := wl_get (ac := xac X) (lay := xlay X) hr
  rw [adr_lt (kd_lt hk0 (by decide)), cell_10 hk0] at e
  exact va_alen hX.1 hX.2.1 hX.2.2.2.2.2.1 hW.1 r 0 e (ty := .int) rfl rfl hd (kk H locs arr hW hS hL hk)
theorem a_llen (hX : Kx X cc own nL d) (hd : decode cc pc = .ok (.arraylength, 1)) (kk : A X k n (pc + 1) ls (.int 400 :: st) w) : A X k n pc ls (.ref (xlay X 1) :: st) w := by
  intro H locs arr hW hS hL hk
  have hr : 1 < 248 + w.2.2.1 := by omega
  have e := wl_get (ac := xac X) (lay := xlay X) hr
  rw [adr_lt (by decide), cell_12 rfl] at e
  exact va_alen hX.1 hX.2.1 hX.2.2.2.2.2.1 hW.1 1 2 e (ty := .object "TermReckoner$Entry") rfl rfl hd (kk H locs arr hW hS hL hk)
theorem a_ald_log {i : Int32} (j : Nat) (hX : Kx X cc own nL d) (hi : i = nI j) (hj : j < 400) (hn : j < w.2.1) (hd : decode cc pc = .ok (.aaload, 1)) (kk : A X k n (pc + 1) ls (.ref (w.2.2.2 j) :: st) w) : A X k n pc ls (.int i :: .ref (xlay X 1) :: st) w := by
  subst hi
  intro H locs arr hW hS hL hk
  have hr : 1 < 248 + w.2.2.1 := by omega
  have e := wl_get (ac := xac X) (lay := xlay X) hr
  rw [adr_lt (by decide), cell_12 rfl] at e
  refine va_aldq hX.1 hX.2.1 hX.2.2.2.2.2.1 hW.1 1 2 e (C := "TermReckoner$Entry") rfl (vp_in_nI hj (by decide)) hd ?_
  rw [nI_clamp (by omega), if_pos hn]
  exact kk H locs arr hW hS hL hk
theorem a_ald_files {i : Int32} {r : Nat} (j : Nat) (hX : Kx X cc own nL d) (hk0 : kd r = 13) (hi : i = nI j) (hj : j < 6) (hd : decode cc pc = .ok (.aaload, 1)) (kk : A X k n (pc + 1) ls (.ref (xlay X (r + 1 + 17 * j)) :: st) w) : A X k n pc ls (.int i :: .ref (xlay X r) :: st) w := by
  subst hi
  intro H locs arr hW hS hL hk
  have hr : r < 248 + w.2.2.1 := Nat.lt_of_lt_of_le (kd_lt hk0 (by decide)) (Nat.le_add_right _ _)
  have e := wl_get (ac := xac X) (lay := xlay X) hr
  rw [adr_lt (kd_lt hk0 (by decide)), cell_13 hk0] at e
  refine va_aldq hX.1 hX.2.1 hX.2.2.2.2.2.1 hW.1 r 3 e (C := "TermReckoner$File") rfl (vp_in_nI hj (by decide)) hd ?_
  rw [nI_clamp (by omega)]
  exact kk H locs arr hW hS hL hk
theorem a_ald_places {i : Int32} {r : Nat} (j : Nat) (hX : Kx X cc own nL d) (hk0 : kd r = 14) (hi : i = nI j) (hj : j < 12) (hd : decode cc pc = .ok (.aaload, 1)) (kk : A X k n (pc + 1) ls (.ref (xlay X (r + 4 + j)) :: st) w) : A X k n pc ls (.int i :: .ref (xlay X r) :: st) w := by
  subst hi
  intro H locs arr hW hS hL hk
  have hr : r < 248 + w.2.2.1 := Nat.lt_of_lt_of_le (kd_lt hk0 (by decide)) (Nat.le_add_right _ _)
  have e := wl_get (ac := xac X) (lay := xlay X) hr
  rw [adr_lt (kd_lt hk0 (by decide)), cell_14 hk0] at e
  refine va_aldq hX.1 hX.2.1 hX.2.2.2.2.2.1 hW.1 r 4 e (C := "TermReckoner$Place") rfl (vp_in_nI hj (by decide)) hd ?_
  rw [nI_clamp (by omega)]
  exact kk H locs arr hW hS hL hk
/-- calls -/
def MI (y : MethodName) (cc : ByteArray) (nL : Nat) (ret : Option FieldType) (np : Nat) : Prop := Cond.code y cc nL ret ∈ wU ∧ Cond.initialized y.cls ∈ wU ∧ (y.cls ≠ "java/lang/invoke/MethodHandle" ∧ y.cls ≠ "java/lang/invoke/VarHandle") ∧ (parseMethodDescriptor y.desc).map (fun d => d.parameters.length) = some np ∧ nL ≤ 21
theorem MI.len {y : MethodName} {cc : ByteArray} {nL np : Nat} {ret : Option FieldType} (h : MI y cc nL ret np) : ∀ sig, parseMethodDescriptor y.desc = some sig → np = sig.parameters.length := by
  intro sig hs
  have h2 := h.2.2.2.1
  rw [hs] at h2
  exact (Option.some.inj h2).symm
theorem a_pay {T : Tr} {y : MethodName} {bytes : ByteArray} {maxL d' mc ms np : Nat} {ret : Option FieldType} (hX : Kx X cc own nL d) (mi : MI y bytes maxL ret np) : ∀ q ∈ (Cond.code y bytes maxL ret :: wU), ∀ (a' : Array Value) (U : State), (xs X).WarmedH U.vm → q.before a' U = true := by
  refine pay_in (big := wU) (args := xa X) hX.2.2.2.2.1 (fun q hq => ?_)
  have hq : q ∈ wU := by
    rcases List.mem_cons.mp hq with rfl | h
    · exact mi.1
    · exact h
  exact ⟨hq, good_of_word (List.mem_filter.mp hq).2⟩
theorem a_callB {y : MethodName} {bytes : ByteArray} {maxL d' mc ms np idx : Nat} {ret : Option FieldType} (hX : Kx X cc own nL d) (mi : MI y bytes maxL ret np) (hl : Cond.methodLink own idx y ∈ wU) (hd : d' < d) : CallB (xR X) (xs X) (xa X) own idx y bytes maxL ret (.code y bytes maxL ret :: wU) { frames := d', cells := mc, slots := ms, locals := 40 * d' } mc ms np := by
  have h1 := hX.2.2.2.2.2.2.2.1
  have h2 := hX.2.2.2.2.2.2.2.2
  have h3 := mi.2.2.2.2
  exact ⟨rfl, rfl, by show d' + 1 ≤ _; omega, by show 8 + (maxL + 11) + 40 * d' ≤ _; omega, a_pay (T := fun _ _ _ _ => True) (d' := 0) (mc := 0) (ms := 0) hX mi, List.mem_cons_self, hX.2.2.2.2.1 _ mi.1, hX.2.2.2.2.1 _ mi.2.1, mi.2.2.1, mi.len, hX.2.2.2.2.1 _ hl⟩
theorem a_callN {y : MethodName} {bytes : ByteArray} {maxL d' mc ms np idx : Nat} {host : String} {ret : Option FieldType} (hX : Kx X cc own nL d) (mi : MI y bytes maxL ret np) (hl : Cond.methodLinkNest own idx y host ∈ nwl) (hd : d' < d) : va_CN (xR X) (xs X) (xa X) own idx y host bytes maxL ret (.code y bytes maxL ret :: wU) { frames := d', cells := mc, slots := ms, locals := 40 * d' } mc ms np := by
  have h1 := hX.2.2.2.2.2.2.2.1
  have h2 := hX.2.2.2.2.2.2.2.2
  have h3 := mi.2.2.2.2
  exact ⟨⟨rfl, rfl, by show d' + 1 ≤ _; omega, by show 8 + (maxL + 11) + 40 * d' ≤ _; omega, a_pay (T := fun _ _ _ _ => True) (d' := 0) (mc := 0) (ms := 0) hX mi, List.mem_cons_self⟩, hX.2.2.2.2.1 _ mi.1, hX.2.2.2.2.1 _ mi.2.1, mi.2.2.1, mi.len, va_Nw.use rfl (hX.2.2.2.2.2.2.1 _ hl)⟩
theorem a_cont {mc ms : Nat} {st0 : List Value} {H : Heap} {locs : List Loc} {arr : Array Slot} {av : Array Value} {Po : Option Value → St → Prop}
    (hr : va_Run (xp X) (xl X) (xe X) (xR X) (xs X) (xm X) (xa X) (xb X) (xmt X) (xc X) H locs k n mc ms (F0 (xm X) pc arr st0) st (QcA (xD X) (xac X) (xbs X) (xlay X) Po av) (fun q => xbs X ≤ q)) (hS : va_S (fun q => xbs X ≤ q) (xs X).heap H locs) (hL : Lv arr ls) (hk : k + mc ≤ (xR X).cells ∧ n + ms ≤ (xR X).slots)
    (kk : ∀ (r : Option Value) (w' : St), Po r w' → A X (k + mc) (n + ms) (pc + 3) ls (r.toList ++ st) w') : W (xp X) (xl X) (xe X) (xR X) (xs X) (xm X) (xa X) (xb X) (xmt X) (xc X) H locs k n (xQ X) (F0 (xm X) pc arr st0) := by
  intro T hT Y
  obtain ⟨v, st₀, t, T', L, h0, Y', hL', e1, e2, ⟨⟨r, w', hv, hPo, hWd⟩, hz, hkeep⟩, stp⟩ := hr T hT Y
  cases hv
  rw [h0] at hz hkeep
  have hS' : va_S (fun q => xbs X ≤ q) (xs X).heap T'.heap (locs ++ L) := by
    refine ⟨Nat.le_trans hS.1 (by rw [e1]; exact hz), fun q h1 h2 => by rw [e1, hkeep q (Nat.lt_of_lt_of_le h1 hS.1) h2]; exact hS.2.1 q h1 h2, fun q hq => ?_⟩
    rcases List.mem_append.mp hq with h | h
    · exact hS.2.2 q h
    · exact hL' q h
  obtain ⟨t2, a1, b1⟩ := kk _ _ hPo T'.heap (locs ++ L) arr (by rw [e1]; exact hWd) hS' hL hk T' rfl Y'
  exact ⟨t2, stp t2 a1, b1⟩
theorem a_preS {H : Heap} {av : List Value} (hX : Kx X cc own nL d) (hW : Wd (xD X) (xac X) (xbs X) (xlay X) w H) : PreS (xs X) H (PcA (xD X) (xac X) (xbs X) (xlay X) av w) av :=
  ⟨blindA, fun U hU hWm => ⟨rfl, by rw [hU]; exact hW, va_K.moved hWm.alike hX.2.2.2.2.2.1, NW.warm hWm hX.2.2.2.2.2.2.1⟩⟩
theorem a_callS {T : Tr} {y : MethodName} {bytes : ByteArray} {maxL d' mc ms np idx : Nat} {ret : Option FieldType} (As : List Value) (hX : Kx X cc own nL d) (hct : Ct y bytes maxL ret d' mc ms T) (mi : MI y bytes maxL ret np) (hst : Cond.static y ∈ wU) (hl : Cond.methodLink own idx y ∈ wU) (hdd : d' < d) (hnp : As.length = np) (hls : ls.length = nL) (hsm : (st.map fun v => v.category).sum ≤ 8) (hcs : k ≤ (xR X).cells ∧ n ≤ (xR X).slots → k + mc ≤ (xR X).cells ∧ n + ms ≤ (xR X).slots) (hd : decode cc pc = .ok (.invokestatic idx, 3))
    (hT : T (xlay X) As w (fun r w' => A X (k + mc) (n + ms) (pc + 3) ls (r.toList ++ st) w')) : A X k n pc ls (As.reverse ++ st) w := by
  intro H locs arr hW hS hL hk
  have hM := hct (xl X) (xD X) (xac X) (xbs X) (xlay X) As w _ hT
  exact a_cont (va_runS ⟨hX.1, hX.2.1, hX.2.2.1, hX.2.2.2.1, hX.2.2.2.2.1⟩ hM ⟨a_callB hX mi hl hdd, hX.2.2.2.2.1 _ hst⟩ (a_preS hX hW) rfl hnp (by rw [← hls]; exact hL.1.1) rfl (lv_room hsm) hd (hcs hk)) hS hL (hcs hk) (fun r w' h => h)
theorem a_callSN {T : Tr} {y : MethodName} {bytes : ByteArray} {maxL d' mc ms np idx : Nat} {host : String} {ret : Option FieldType} (As : List Value) (hX : Kx X cc own nL d) (hct : Ct y bytes maxL ret d' mc ms T) (mi : MI y bytes maxL ret np) (hst : Cond.static y ∈ wU) (hl : Cond.methodLinkNest own idx y host ∈ nwl) (hdd : d' < d) (hnp : As.length = np) (hls : ls.length = nL) (hsm : (st.map fun v => v.category).sum ≤ 8) (hcs : k ≤ (xR X).cells ∧ n ≤ (xR X).slots → k + mc ≤ (xR X).cells ∧ n + ms ≤ (xR X).slots) (hd : decode cc pc = .ok (.invokestatic idx, 3))
    (hT : T (xlay X) As w (fun r w' => A X (k + mc) (n + ms) (pc + 3) ls (r.toList ++ st) w')) : A X k n pc ls (As.reverse ++ st) w := by
  intro H locs arr hW hS hL hk
  have hM := hct (xl X) (xD X) (xac X) (xbs X) (xlay X) As w _ hT
  exact a_cont (va_runSN ⟨hX.1, hX.2.1, hX.2.2.1, hX.2.2.2.1, hX.2.2.2.2.1⟩ hM ⟨a_callN hX mi hl hdd, hX.2.2.2.2.1 _ hst, trivial⟩ (a_preS hX hW) rfl hnp (by rw [← hls]; exact hL.1.1) rfl (lv_room hsm) hd (hcs hk)) hS hL (hcs hk) (fun r w' h => h)
theorem a_preV {H : Heap} {b ci r N : Nat} {C : String} {TT : u_T} {fs av : List Value} (hX : Kx X cc own nL d) (hW : Wd (xD X) (xac X) (xbs X) (xlay X) w H) (hr : r < 248 + w.2.2.1) (ha : adr (xlay X) w r = b) (hc : cell (xac X) (xlay X) w r = .inr (ci, fs)) (hcl : vwCl[ci]? = some (C, TT, N)) : PreV (xs X) H C b (PcA (xD X) (xac X) (xbs X) (xlay X) (.ref b :: av) w) av := by
  refine ⟨blindA, ?_, (a_preS hX hW).2⟩
  exact va_recv (q := (C, TT, N)) hX.2.2.2.2.2.1 hW.1 hcl ((wl_get hr).trans (by rw [hc, ha]))
theorem a_callV {T : Tr} {y : MethodName} {bytes : ByteArray} {maxL d' mc ms np idx b ci r N : Nat} {C : String} {TT : u_T} {fs : List Value} {ret : Option FieldType} (As : List Value) (hX : Kx X cc own nL d) (hct : Ct y bytes maxL ret d' mc ms T) (mi : MI y bytes maxL ret np) (hin : Cond.instanceMethod y ∈ wU) (hse : Cond.selects C y y ∈ wU) (hr : r < 248 + w.2.2.1) (ha : adr (xlay X) w r = b) (hc : cell (xac X) (xlay X) w r = .inr (ci, fs)) (hcl : vwCl[ci]? = some (C, TT, N)) (hl : Cond.methodLink own idx y ∈ wU) (hdd : d' < d) (hnp : As.length = np) (hls : ls.length = nL) (hsm : (st.map fun v => v.category).sum ≤ 8) (hcs : k ≤ (xR X).cells ∧ n ≤ (xR X).slots → k + mc ≤ (xR X).cells ∧ n + ms ≤ (xR X).slots) (hd : decode cc pc = .ok (.invokevirtual idx, 3))
    (hT : T (xlay X) (.ref b :: As) w (fun r w' => A X (k + mc) (n + ms) (pc + 3) ls (r.toList ++ st) w')) : A X k n pc ls (As.reverse ++ .ref b :: st) w := by
  intro H locs arr hW hS hL hk
  have hM := hct (xl X) (xD X) (xac X) (xbs X) (xlay X) (.ref b :: As) w _ hT
  exact a_cont (va_runV (C := C) ⟨hX.1, hX.2.1, hX.2.2.1, hX.2.2.2.1, hX.2.2.2.2.1⟩ hM ⟨a_callB hX mi hl hdd, hX.2.2.2.2.1 _ hin, hX.2.2.2.2.1 _ hse⟩ (a_preV hX hW hr ha hc hcl) rfl hnp (by rw [← hls]; exact hL.1.1) rfl (lv_room hsm) hd (hcs hk)) hS hL (hcs hk) (fun r w' h => h)
end ROWS2
